-- 7zab.erule
/-! the reference's CLAUSES as they stand behind rule() -/
def e_mk (q : Nat) (M : gM) (m : Nat × Nat × Nat) : Prop := ((M.2.1 179 q).toInt = (m.1 : Int) ∧ (M.2.1 179 (q + 1)).toInt = (m.2.1 : Int)) ∧ (M.2.1 179 (q + 2)).toInt = (if m.2.1 = m.2.2 then -1 else (m.2.1 : Int)) ∧ (M.2.1 179 (q + 3)).toInt = (m.2.2 : Int)
def e_RM (T : gM) (t q : Nat) (M0 : gM) (r : Nat ⊕ (sS × (Nat × Nat × Nat))) : Int32 × gM → Prop := fun y => match r with
  | .inl e => y.1 = 0 ∧ (y.2.2.1 175 9).toInt = (e : Int)
  | .inr (z, m) => (y.1 = 1 ∧ r_X T t y.2 z) ∧ e_mk q y.2 m ∧ ∀ j, j < q → y.2.2.1 179 j = M0.2.1 179 j
def s_fdm (T : gM) (x : sS) : Nat ⊕ (sS × (Nat × Nat × Nat)) := match s_sum T (k_go T x.1, x.2) with
  | .inl e => .inl e
  | .inr y => if k_kind T y.1 = 279 then (match s_J T 0 0 (k_go T y.1, y.2) with
    | .inl e => .inl e
    | .inr z => .inr (z, (x.2.2.length, y.2.2.length, z.2.2.length))) else .inr (y, (x.2.2.length, y.2.2.length, y.2.2.length))
theorem E_fade_b110M {T : gM} {t c q : Nat} {l1 : Int32} {M M0 : gM} {x : sS} {m : Nat × Nat × Nat} (H : y_HT M) (ht : t ≤ 5) (e11 : (M.2.1 175 11).toInt = (t : Int)) (hq : q = 48 * t + 4 * c) (hl : l1.toInt = (q : Int)) (hc : c < 12) (hcc : n_cc M t = c) (X : r_X T t M x) (h179 : ((M.2.1 179 q).toInt = (m.1 : Int) ∧ (M.2.1 179 (q + 1)).toInt = (m.2.1 : Int)) ∧ (M.2.1 179 (q + 2)).toInt = (if m.2.1 = m.2.2 then -1 else (m.2.1 : Int))) (hm : m.2.2 = x.2.2.length) (h0 : ∀ j, j < q → M.2.1 179 j = M0.2.1 179 j) : Ok (F_X12_isFadeHere_b110 (some 175) l1 M) (e_RM T t q M0 (.inr (x, m))) := by
  have ct : (M.2.1 175 11).toNatClampNeg = t := i_cl e11
  have z3 : (3 : Int32).toInt = 3 := rfl
  have a1 := i_addc (x := l1) (c := (3 : Int32)) z3 (by omega) (by omega)
  have c3 : (l1 + (3 : Int32)).toNatClampNeg = q + 3 := i_cl (by omega)
  have ll := n_l1 H t
  have cc1 := n_cc1 H t
  delta F_X12_isFadeHere_b110
  rw [e_gR H (w := 179) rfl (by decide), Option.bind_some, e_gR H (w := 178) rfl (by decide), Option.bind_some, e_gI H, Option.bind_some, e_aI H (t := 20) (i := 178) (n := 7) rfl (by decide) (by omega) (by omega), Option.bind_some, ct, e_sI H (i := 179) (n := 288) rfl (by omega) (by omega), Option.bind_some, c3]
  obtain ⟨H5, f5⟩ := y_set (M' := mI M 179 (q + 3) (M.2.1 178 t)) (S := 2 ^ 44) H (i := 179) (k := q + 3) (by decide) rfl rfl y_mI1 (fun j a hj => y_mI2 hj) rfl (y_in (lo := -1) (hi := 400) rfl (by omega)) (show Nat.testBit (2 ^ 44) 44 = true by decide)
  have w3 : (mI M 179 (q + 3) (M.2.1 178 t)).2.1 179 (q + 3) = M.2.1 178 t := y_mI1
  have o3 : ∀ j, j ≠ q + 3 → (mI M 179 (q + 3) (M.2.1 178 t)).2.1 179 j = M.2.1 179 j := fun j hj => mI_ne (Or.inr hj)
  generalize mI M 179 (q + 3) (M.2.1 178 t) = M5 at H5 f5 w3 o3 ⊢
  have e11' := y_fk (i := 175) (k := 11) f5 (by decide)
  have e180 : ∀ k, M5.2.1 180 k = M.2.1 180 k := fun k => y_fa (i := 180) f5 (by decide) (by decide) k
  have inc : M5.2.1 180 t + (1 : Int32) = Int32.ofNat (c + 1) := n_inc (by rw [e180, cc1.1, hcc]) (by omega)
  rw [e_gR H5 (w := 180) rfl (by decide), Option.bind_some, e_gI H5, Option.bind_some, e11', e_aI H5 (t := 20) (i := 180) (n := 6) rfl (by decide) (by omega) (by omega), Option.bind_some, ct, e_sI H5 (i := 180) (n := 6) rfl (by omega) (by omega), Option.bind_some, ct, inc]
  have ci : (Int32.ofNat (c + 1)).toInt = ((c + 1 : Nat) : Int) := i_ofNat (by omega)
  obtain ⟨H9, f9⟩ := y_set (M' := mI M5 180 t (Int32.ofNat (c + 1))) (S := 2 ^ 45) H5 (i := 180) (k := t) (by decide) rfl rfl y_mI1 (fun j a hj => y_mI2 hj) rfl (y_in (lo := 0) (hi := 12) rfl (by omega)) (show Nat.testBit (2 ^ 45) 45 = true by decide)
  have o9 : ∀ j, (mI M5 180 t (Int32.ofNat (c + 1))).2.1 179 j = M5.2.1 179 j := fun j => mI_ne (Or.inl (by decide))
  have xl : n_l M t = x.2.2.length := X.2.2.2.1
  refine Ok_s ⟨⟨rfl, r_Xfr (r_Xfr X f5 (by decide)) f9 (by decide)⟩, ⟨⟨?_, ?_⟩, ?_, ?_⟩, fun j hj => ?_⟩
  · show ((mI M5 180 t (Int32.ofNat (c + 1))).2.1 179 q).toInt = _
    rw [o9, o3 _ (by omega)]
    exact h179.1.1
  · show ((mI M5 180 t (Int32.ofNat (c + 1))).2.1 179 (q + 1)).toInt = _
    rw [o9, o3 _ (by omega)]
    exact h179.1.2
  · show ((mI M5 180 t (Int32.ofNat (c + 1))).2.1 179 (q + 2)).toInt = _
    rw [o9, o3 _ (by omega)]
    exact h179.2
  · show ((mI M5 180 t (Int32.ofNat (c + 1))).2.1 179 (q + 3)).toInt = _
    rw [o9, w3, hm, ll.1, xl]
  · show (mI M5 180 t (Int32.ofNat (c + 1))).2.1 179 j = _
    rw [o9, o3 _ (by omega)]
    exact h0 j hj
theorem E_isFadeHereM {T : gM} (B : z_B T) {t c : Nat} {M : gM} {x : sS} (K : p_K t c M) (hc : c < 12) (X : r_X T t M x) (xx : n_x M = x.1) (kk : k_kind T x.1 = 278) : Ok (F_X12_isFadeHere (some 175) M) (e_RM T t (48 * t + 4 * c) M (s_fdm T x)) := by
  obtain ⟨⟨⟨H, ht⟩, e11⟩, hx, hcc, C0⟩ := K
  have s1 := n_s1 H
  have cc1 := n_cc1 H t
  have e2 := n_le_le (M := M) (p := n_x M) hx.2
  have ele : n_le M = n_le T := (n_T X.1.1 X.1.2).1.2.1.2
  have kg : n_sk T (n_le M (n_x M)) = k_go T x.1 := by rw [ele, xx]; exact (k_go_w (by omega)).symm
  delta F_X12_isFadeHere F_X12_isFadeHere_b0
  rw [e_gO H, Option.bind_some, R_passWord H hx.2, Option.bind_some]
  have I0 : p_I t (n_l M t) 0 0 M := ⟨⟨⟨H, ht⟩, e11⟩, ⟨hx.1, hx.2⟩, ⟨Nat.le_refl _, by rw [Nat.sub_self]; rfl⟩, Nat.zero_le _⟩
  have I2 : p_I t (n_l M t) 0 0 (n_at M (n_le M (n_x M))) := p_I_at I0 (by omega) e2.2
  have X2 : r_X T t (n_at M (n_le M (n_x M))) (k_go T x.1, x.2) := r_Xat X (by omega) kg
  have c2 : n_cc (n_at M (n_le M (n_x M))) t = c := by
    unfold n_cc
    rw [n_ata (by decide)]
    exact hcc
  have p2 : ∀ j, (n_at M (n_le M (n_x M))).2.1 179 j = M.2.1 179 j := fun j => congrFun (n_ata (by decide)) j
  generalize n_at M (n_le M (n_x M)) = M2 at I2 X2 c2 p2 ⊢
  have H2 := I2.1.1.1
  have t2 := I2.1.2
  have ct2 : (M2.2.1 175 11).toNatClampNeg = t := i_cl t2
  have ll2 := n_l1 H2 t
  have cc2 := n_cc1 H2 t
  have a1 := i_mulL (c := (48 : Int32)) (x := M2.2.1 175 11) (n := 48) rfl (by omega) (by omega)
  have a2 := i_mulL (c := (4 : Int32)) (x := M2.2.1 180 t) (n := 4) rfl (by omega) (by omega)
  have a3 := i_add (x := (48 : Int32) * M2.2.1 175 11) (y := (4 : Int32) * M2.2.1 180 t) (by omega) (by omega)
  rw [e_gI H2, Option.bind_some, e_gR H2 (w := 180) rfl (by decide), Option.bind_some, Option.bind_some, e_aI H2 (t := 20) (i := 180) (n := 6) rfl (by decide) (by omega) (by omega), Option.bind_some, ct2]
  obtain ⟨q, hq⟩ : ∃ q, q = 48 * t + 4 * c := ⟨_, rfl⟩
  rw [← hq]
  obtain ⟨l, hl⟩ : ∃ l, l = (48 : Int32) * M2.2.1 175 11 + (4 : Int32) * M2.2.1 180 t := ⟨_, rfl⟩
  rw [← hl] at a3 ⊢
  have lq : l.toInt = (q : Int) := by omega
  have lc : l.toNatClampNeg = q := i_cl lq
  have b1 := i_addc (x := l) (c := (1 : Int32)) (n := 1) rfl (by omega) (by omega)
  have b2 := i_addc (x := l) (c := (2 : Int32)) (n := 2) rfl (by omega) (by omega)
  have lc1 : (l + (1 : Int32)).toNatClampNeg = q + 1 := i_cl (by omega)
  have lc2 : (l + (2 : Int32)).toNatClampNeg = q + 2 := i_cl (by omega)
  rw [e_gR H2 (w := 179) rfl (by decide), Option.bind_some, e_gR H2 (w := 178) rfl (by decide), Option.bind_some, Option.bind_some, e_aI H2 (t := 20) (i := 178) (n := 7) rfl (by decide) (by omega) (by omega), Option.bind_some, ct2, e_sI H2 (i := 179) (n := 288) rfl (by omega) (by omega), Option.bind_some, lc]
  -- a mark leaves all that is looked at
  have mk : ∀ {N : gM} {y : sS} {j : Nat} {v : Int32} {d : Nat}, p_I t (n_l M t) d 0 N → r_X T t N y → n_cc N t = c → q ≤ j → j < 288 → (-1 ≤ v.toInt ∧ v.toInt ≤ 400) → p_I t (n_l M t) d 0 (mI N 179 j v) ∧ r_X T t (mI N 179 j v) y ∧ n_cc (mI N 179 j v) t = c := by
    intro N y j v d IN XN cN h1 h2 h3
    obtain ⟨H1, f1⟩ := y_set (M' := mI N 179 j v) (S := 2 ^ 44) IN.1.1.1 (i := 179) (k := j) (by decide) rfl rfl y_mI1 (fun j a hj => y_mI2 hj) rfl h3 (show Nat.testBit (2 ^ 44) 44 = true by decide)
    refine ⟨(p_mark (S := 0) IN h1 h2 h3).1, r_Xfr XN f1 (by decide), ?_⟩
    unfold n_cc
    rw [mI_ne (Or.inl (by decide))]
    exact cN
  have xl : (M2.2.1 178 t).toInt = (x.2.2.length : Int) := by rw [ll2.1, X2.2.2.2.1]
  have w11 : (mI M2 179 q (M2.2.1 178 t)).2.1 179 q = M2.2.1 178 t := y_mI1
  have o11 : ∀ j, j ≠ q → (mI M2 179 q (M2.2.1 178 t)).2.1 179 j = M2.2.1 179 j := fun j hj => mI_ne (Or.inr hj)
  obtain ⟨I11, X11, c11⟩ := mk (j := q) (v := M2.2.1 178 t) I2 X2 c2 (Nat.le_refl _) (by omega) (by omega)
  generalize mI M2 179 q (M2.2.1 178 t) = M11 at I11 X11 c11 w11 o11 ⊢
  have H11 := I11.1.1.1
  rw [e_gC H11, Option.bind_some]
  unfold s_fdm
  refine Ok_b (Ok_and (P_sum I11) (E_sum B I11 X11)) (fun y z => ?_)
  obtain ⟨v13, M14⟩ := y
  obtain ⟨⟨⟨H14, F14⟩, P⟩, E⟩ := z
  dsimp only at P E H14 F14 ⊢
  generalize s_sum T (k_go T x.1, x.2) = r at E ⊢
  cases r with
  | inl e =>
    obtain ⟨h5, g5⟩ := E
    dsimp only at h5 g5
    subst h5
    rw [if_pos rfl]
    exact Ok_s ⟨rfl, g5⟩
  | inr y =>
  dsimp only
  obtain ⟨h5, X14⟩ := E
  dsimp only at h5 X14
  subst h5
  rcases P with ⟨h5, _⟩ | ⟨_, I14, x14⟩
  · exact absurd h5 (by decide)
  have c14 : n_cc M14 t = c := by
    unfold n_cc
    rw [y_fa (i := 180) F14.1 (by decide) (by decide) t]
    exact c11
  have o14 : ∀ j, M14.2.1 179 j = M11.2.1 179 j := fun j => y_fa (i := 179) F14.1 (by decide) (by decide) j
  have yl : (M14.2.1 178 t).toInt = (y.2.2.length : Int) := by rw [(n_l1 H14 t).1, X14.2.2.2.1]
  have t14 := I14.1.2
  have ct14 : (M14.2.1 175 11).toNatClampNeg = t := i_cl t14
  have ll14 := n_l1 H14 t
  rw [if_neg (by decide), e_gR H14 (w := 179) rfl (by decide), Option.bind_some, e_gR H14 (w := 178) rfl (by decide), Option.bind_some, e_gI H14, Option.bind_some, e_aI H14 (t := 20) (i := 178) (n := 7) rfl (by decide) (by omega) (by omega), Option.bind_some, ct14, e_sI H14 (i := 179) (n := 288) rfl (by omega) (by omega), Option.bind_some, lc1]
  have w19 : (mI M14 179 (q + 1) (M14.2.1 178 t)).2.1 179 (q + 1) = M14.2.1 178 t := y_mI1
  have o19 : ∀ j, j ≠ q + 1 → (mI M14 179 (q + 1) (M14.2.1 178 t)).2.1 179 j = M14.2.1 179 j := fun j hj => mI_ne (Or.inr hj)
  obtain ⟨I19, X19, c19⟩ := mk (j := q + 1) (v := M14.2.1 178 t) I14 X14 c14 (by omega) (by omega) (by omega)
  generalize mI M14 179 (q + 1) (M14.2.1 178 t) = M19 at I19 X19 c19 w19 o19 ⊢
  have H19 := I19.1.1.1
  rw [e_gR H19 (w := 179) rfl (by decide), Option.bind_some, e_sI H19 (i := 179) (n := 288) rfl (by omega) (by omega), Option.bind_some, lc2]
  have w21 : (mI M19 179 (q + 2) (-1 : Int32)).2.1 179 (q + 2) = -1 := y_mI1
  have o21 : ∀ j, j ≠ q + 2 → (mI M19 179 (q + 2) (-1 : Int32)).2.1 179 j = M19.2.1 179 j := fun j hj => mI_ne (Or.inr hj)
  obtain ⟨I21, X21, c21⟩ := mk (j := q + 2) (v := (-1 : Int32)) I19 X19 c19 (by omega) (by omega) (by decide)
  generalize mI M19 179 (q + 2) (-1 : Int32) = M21 at I21 X21 c21 w21 o21 ⊢
  have H21 := I21.1.1.1
  have d0 : (M21.2.1 179 q).toInt = (x.2.2.length : Int) := by rw [o21 _ (by omega), o19 _ (by omega), o14, w11]; exact xl
  have d1 : (M21.2.1 179 (q + 1)).toInt = (y.2.2.length : Int) := by rw [o21 _ (by omega), w19]; exact yl
  have d9 : ∀ j, j < q → M21.2.1 179 j = M.2.1 179 j := fun j hj => by rw [o21 _ (by omega), o19 _ (by omega), o14, o11 _ (by omega), p2]
  have h21 := I21.2.1
  have s21 := n_s1 H21
  have k21 := n_sk_le h21.2
  obtain ⟨ex, Xs⟩ := r_Xsee X21 H21 h21.2
  obtain ⟨p, hp⟩ : ∃ p, p = n_sk M21 (n_x M21) := ⟨_, rfl⟩
  have px : p = y.1 := hp.trans ex
  have n21 := n_T X21.1.1 X21.1.2
  have ew : n_w M21 = n_w T := n21.2.1.1
  have el : n_le M21 = n_le T := n21.1.2.1.2
  rw [← hp] at k21
  rw [e_gC H21, Option.bind_some, R_takesWord H21 h21.2, Option.bind_some, ← hp]
  by_cases cw : n_w M21 p 26982 = true
  · have k9 : k_kind T y.1 = 279 := by rw [← px]; exact n_w_if.mp (by rw [← ew]; exact cw)
    rw [if_pos cw]
    dsimp only
    have e9 := n_le_le (M := M21) (p := p) (by omega)
    have I24 : p_I t (n_l M t) (0 + 1) 0 (n_at M21 (n_le M21 p)) := p_I_at I21 (by omega) e9.2
    have X24 : r_X T t (n_at M21 (n_le M21 p)) (k_go T y.1, y.2) := r_Xat X21 (by omega) (by rw [el, px]; exact (k_go_w (by omega)).symm)
    have c24 : n_cc (n_at M21 (n_le M21 p)) t = c := by
      rw [n_c9]
      exact c21
    have p24 : ∀ j, (n_at M21 (n_le M21 p)).2.1 179 j = M21.2.1 179 j := fun j => congrFun (n_ata (by decide)) j
    have l24 : (n_at M21 (n_le M21 p)).2.1 178 t = M21.2.1 178 t := congrFun (n_ata (by decide)) t
    generalize n_at M21 (n_le M21 p) = M24 at I24 X24 c24 p24 l24 ⊢
    have H24 := I24.1.1.1
    have t24 := I24.1.2
    have ct24 : (M24.2.1 175 11).toNatClampNeg = t := i_cl t24
    have ll24 := n_l1 H24 t
    rw [if_neg (by decide), e_gR H24 (w := 179) rfl (by decide), Option.bind_some, e_gR H24 (w := 178) rfl (by decide), Option.bind_some, e_gI H24, Option.bind_some, e_aI H24 (t := 20) (i := 178) (n := 7) rfl (by decide) (by omega) (by omega), Option.bind_some, ct24, e_sI H24 (i := 179) (n := 288) rfl (by omega) (by omega), Option.bind_some, lc2]
    have y24 : (M24.2.1 178 t).toInt = (y.2.2.length : Int) := by rw [ll24.1, X24.2.2.2.1]
    have w29 : (mI M24 179 (q + 2) (M24.2.1 178 t)).2.1 179 (q + 2) = M24.2.1 178 t := y_mI1
    have o29 : ∀ j, j ≠ q + 2 → (mI M24 179 (q + 2) (M24.2.1 178 t)).2.1 179 j = M24.2.1 179 j := fun j hj => mI_ne (Or.inr hj)
    obtain ⟨I29, X29, c29⟩ := mk (j := q + 2) (v := M24.2.1 178 t) I24 X24 c24 (by omega) (by omega) (by omega)
    generalize mI M24 179 (q + 2) (M24.2.1 178 t) = M29 at I29 X29 c29 w29 o29 ⊢
    have H29 := I29.1.1.1
    have J29 : p_I t (n_l M29 t) 0 0 M29 := ⟨I29.1, ⟨I29.2.1.1, I29.2.1.2⟩, ⟨Nat.le_refl _, by rw [Nat.sub_self]; rfl⟩, Nat.zero_le _⟩
    rw [e_gC H29, Option.bind_some]
    rw [if_pos k9]
    have JT := J_tested (T := T) (k_go T y.1, y.2)
    refine Ok_b (Ok_and (P_tested J29) (E_tested B J29 X29)) (fun y2 z => ?_)
    obtain ⟨v31, M32⟩ := y2
    obtain ⟨⟨⟨H32, F32⟩, P⟩, E⟩ := z
    dsimp only at P E H32 F32 ⊢
    generalize s_J T 0 0 (k_go T y.1, y.2) = r at E JT ⊢
    cases r with
    | inl e =>
      obtain ⟨h5, g5⟩ := E
      dsimp only at h5 g5
      subst h5
      rw [if_pos rfl]
      exact Ok_s ⟨rfl, g5⟩
    | inr y3 =>
    dsimp only
    obtain ⟨h5, X32⟩ := E
    dsimp only at h5 X32
    subst h5
    rcases P with ⟨h5, _⟩ | ⟨_, I32, x32⟩
    · exact absurd h5 (by decide)
    rw [if_neg (by decide)]
    have c32 : n_cc M32 t = c := by
      unfold n_cc
      rw [y_fa (i := 180) F32.1 (by decide) (by decide) t]
      exact c29
    have o32 : ∀ j, M32.2.1 179 j = M29.2.1 179 j := fun j => y_fa (i := 179) F32.1 (by decide) (by decide) j
    have ne : y.2.2.length ≠ y3.2.2.length := by
      obtain ⟨g, eg, ag⟩ := JT
      obtain ⟨v, hv, _⟩ := ag (fun _ => 0)
      have := (m_Ene hv).1
      rw [eg, List.length_append]
      show y.2.2.length ≠ g.length + y.2.2.length
      omega
    refine E_fade_b110M (m := (x.2.2.length, y.2.2.length, y3.2.2.length)) H32 ht I32.1.2 hq lq hc c32 X32 ⟨⟨?_, ?_⟩, ?_⟩ rfl (fun j hj => ?_)
    · rw [o32, o29 _ (by omega), p24]
      exact d0
    · rw [o32, o29 _ (by omega), p24]
      exact d1
    · show (M32.2.1 179 (q + 2)).toInt = if y.2.2.length = y3.2.2.length then -1 else (y.2.2.length : Int)
      rw [if_neg ne, o32, w29]
      exact y24
    · rw [o32, o29 _ (by omega), p24]
      exact d9 j hj
  · have k9 : ¬ k_kind T y.1 = 279 := by
      rw [← px]
      exact fun z => cw (by rw [ew]; exact n_w_if.mpr z)
    rw [if_neg cw]
    dsimp only
    rw [if_neg k9, if_pos rfl]
    rw [← px] at Xs
    have I24 : p_I t (n_l M t) (0 + 1) 0 (n_at M21 p) := p_I_at I21 (by omega) (by omega)
    have p24 : ∀ j, (n_at M21 p).2.1 179 j = M21.2.1 179 j := fun j => congrFun (n_ata (by decide)) j
    refine E_fade_b110M (m := (x.2.2.length, y.2.2.length, y.2.2.length)) I24.1.1.1 ht I24.1.2 hq lq hc (by rw [n_c9]; exact c21) Xs ⟨⟨?_, ?_⟩, ?_⟩ rfl (fun j hj => ?_)
    · rw [p24]
      exact d0
    · rw [p24]
      exact d1
    · show ((n_at M21 p).2.1 179 (q + 2)).toInt = if y.2.2.length = y.2.2.length then -1 else (y.2.2.length : Int)
      rw [if_pos rfl, p24, w21]
      rfl
    · rw [p24]
      exact d9 j hj
theorem E_clauseHereM {T : gM} (B : z_B T) {t c : Nat} {M : gM} {x : sS} (N : p_N t c M) (X : r_X T t M x) : Ok (F_X12_clauseHere (some 175) M) (fun y => e_RM T t (48 * t + 4 * c) M (s_cl T (c + 1) x) y ∧ (y.1 = 1 → (y.2.2.1 175 14).toInt = ((c + 1 : Nat) : Int))) := by
  obtain ⟨K, hl, hc⟩ := N
  have H := K.1.1.1
  have ht := K.1.1.2
  have hx := K.2.1
  have s1 := n_s1 H
  have k1 := n_sk_le hx.2
  obtain ⟨p, hp⟩ : ∃ p, p = n_sk M (n_x M) := ⟨_, rfl⟩
  obtain ⟨ex, X3⟩ := r_Xsee X H hx.2
  have px : p = x.1 := hp.trans ex
  rw [← px] at X3
  rw [← hp] at k1
  obtain ⟨H3, f3⟩ := n_at_set (p := p) H (by omega)
  have x3 : n_x (n_at M p) = p := n_at_x (by omega)
  have K3 : p_K t c (n_at M p) := p_K_of K H3 f3 (by decide) (by omega)
  have v4 : (n_at M p).2.1 175 8 = Int32.ofNat p := n_at8
  have xi : (Int32.ofNat p).toInt = (p : Int) := i_ofNat (by omega)
  have v14 : (n_at M p).2.1 175 14 = M.2.1 175 14 := n_atk (by decide)
  have e11 := K3.1.2
  have ew : n_w M = n_w T := (n_T X.1.1 X.1.2).2.1.1
  delta F_X12_clauseHere F_X12_clauseHere_b0
  rw [e_gO H, Option.bind_some, R_see H hx.2, ← hp, Option.bind_some]
  dsimp only
  rw [e_gI H3, Option.bind_some, e_gI H3, Option.bind_some, v4]
  have z6 : (6 : Int32).toInt = 6 := rfl
  refine Ok_e (fun e => by have := i_eq e; omega) ?_
  delta F_X12_clauseHere_b24
  rw [if_pos rfl, e_gO H3, Option.bind_some, R_isW2 H hx.2 hp, Option.bind_some]
  dsimp only
  have p3 : ∀ j, (n_at M p).2.1 179 j = M.2.1 179 j := fun j => congrFun (n_ata (by decide)) j
  generalize n_at M p = M3 at H3 x3 K3 v14 e11 X3 p3 ⊢
  have bad : ∀ {k : Int32} {d : Nat}, k.toInt = (d : Int) → d ≤ 7 → Ok ((F_X12_fails (some 175) k (Int32.ofNat p) M3).bind fun (v2, M4) => if v2 = 0 ∨ v2 = 1 then some (v2, M4) else none) (fun y => e_RM T t (48 * t + 4 * c) M (.inl (1 + 8 * x.1 + d)) y ∧ (y.1 = 1 → (y.2.2.1 175 14).toInt = ((c + 1 : Nat) : Int))) := by
    intro k d hk hd
    rw [R_fails H3, Option.bind_some]
    dsimp only
    rw [if_pos (Or.inl rfl), ← px]
    exact Ok_s ⟨⟨rfl, n_f_0 X3.2.2.1.1 xi (by omega) hk hd⟩, fun z => absurd z (by show ¬ (0 : Int32) = 1; decide)⟩
  unfold s_cl
  by_cases cw : n_w M p 1717658725 = true
  · have kk : k_kind T x.1 = 278 := by rw [← px]; exact n_w_fade.mp (by rw [← ew]; exact cw)
    rw [if_pos cw, if_neg (by decide), if_neg (by rw [kk]; decide)]
    delta F_X12_clauseHere_b56 F_X12_clauseHere_b71
    rw [e_gI H3, Option.bind_some, if_pos rfl]
    have z12 : (12 : Int32).toInt = 12 := rfl
    have hl3 : (M3.2.1 175 14).toInt = (c : Int) := by rw [v14]; exact hl
    by_cases c12 : M3.2.1 175 14 = 12
    · have : c = 12 := by rw [c12] at hl3; omega
      rw [if_pos c12, if_pos (by omega), e_gO H3, Option.bind_some]
      exact bad rfl (by decide)
    · have : c ≠ 12 := fun z => c12 (Int32.toInt_inj.mp (by omega))
      rw [if_neg c12, if_neg (by omega), Option.bind_some, e_pI H3, Option.bind_some, n_inc hl3 (by omega)]
      obtain ⟨H2, f2⟩ := y_set (M' := mI M3 175 14 (Int32.ofNat (c + 1))) (S := 2 ^ 14) H3 (i := 175) (k := 14) (by decide) rfl rfl y_mI1 (fun j a hj => y_mI2 hj) rfl (y_full rfl) (by decide)
      have w14 : (mI M3 175 14 (Int32.ofNat (c + 1))).2.1 175 14 = Int32.ofNat (c + 1) := y_mI1
      have p4 : ∀ j, (mI M3 175 14 (Int32.ofNat (c + 1))).2.1 179 j = M.2.1 179 j := fun j => (mI_ne (Or.inl (by decide))).trans (p3 j)
      generalize mI M3 175 14 (Int32.ofNat (c + 1)) = M2 at H2 f2 w14 p4 ⊢
      have x2 := n_fx f2 (by decide)
      have K2 : p_K t c M2 := p_K_of K3 H2 f2 (by decide) (by rw [x2]; exact K3.2.1)
      have X2 := r_Xfr X3 f2 (by decide)
      rw [if_pos rfl, e_gO H2, Option.bind_some]
      refine Ok_b (Ok_and (P_isFadeHere K2 (by omega)) (E_isFadeHereM B K2 (by omega) X2 (by rw [x2, x3]; exact px) kk)) (fun y z => ?_)
      obtain ⟨v, M5⟩ := y
      obtain ⟨z, E⟩ := z
      have E' : e_RM T t (48 * t + 4 * c) M (s_fdm T x) (v, M5) := by
        generalize s_fdm T x = r at E ⊢
        cases r with
        | inl e => exact E
        | inr zm =>
          obtain ⟨z', m'⟩ := zm
          obtain ⟨E1, E2, E3⟩ := E
          exact ⟨E1, E2, fun j hj => (E3 j hj).trans (p4 j)⟩
      refine Ok_t ?_ (Ok_s ⟨E', fun _ => ?_⟩)
      · rcases z.2 with z | z
        · exact Or.inl z.1
        · exact Or.inr z.1
      · show (M5.2.1 175 14).toInt = _
        rw [y_fk (i := 175) (k := 14) z.1.2.1 (by decide), w14, i_ofNat (by omega)]
  · have kk : k_kind T x.1 ≠ 278 := by
      rw [← px]
      exact fun z => cw (by rw [ew]; exact n_w_fade.mpr z)
    rw [if_neg cw, if_pos rfl, if_pos kk]
    delta F_X12_clauseHere_b49
    rw [e_gO H3, Option.bind_some]
    exact bad rfl (by decide)
/-- the whole text is read: a RULE's steps and CLAUSES, or a FAULT -/
def e_ZM (t : Nat) (r : Nat ⊕ (sS × List (Nat × Nat × Nat))) : Int32 × gM → Prop := fun y => match r with
  | .inl _ => True
  | .inr (z, ms) => (r_O (y_sn y.2 t) z.2.2 ∧ r_K (y.2.2.1 179) (48 * t) ms) ∧ n_cc y.2 t = ms.length
theorem E_rd_b88M {t : Nat} {r : Nat ⊕ (sS × List (Nat × Nat × Nat))} {M : gM} (H : y_HT M) (h : match r with | .inl e => (M.2.1 175 9).toInt = (e : Int) ∧ M.2.1 175 9 ≠ 0 | .inr (z, ms) => M.2.1 175 9 = 0 ∧ (r_O (y_sn M t) z.2.2 ∧ r_K (M.2.1 179) (48 * t) ms) ∧ n_cc M t = ms.length) : Ok (F_X12_readsAll_b88 (some 175) M) (e_ZM t r) := by
  delta F_X12_readsAll_b88
  rw [e_pI H, Option.bind_some]
  have H1 : y_HT (mI M 175 1 (0 : Int32)) := (y_set (M' := mI M 175 1 (0 : Int32)) (S := 2 ^ 1) H (i := 175) (k := 1) (by decide) rfl rfl y_mI1 (fun j a hj => y_mI2 hj) rfl (y_in (lo := 0) (hi := 400) rfl (by decide)) (by decide)).1
  have w9 : (mI M 175 1 (0 : Int32)).2.1 175 9 = M.2.1 175 9 := mI_ne (Or.inr (by decide))
  rw [e_gI H1, Option.bind_some, w9]
  cases r with
  | inl e =>
    rw [if_neg h.2]
    exact Ok_s trivial
  | inr y =>
    obtain ⟨z, ms⟩ := y
    rw [if_pos h.1]
    have s1 : y_sn (mI M 175 1 (0 : Int32)) t = y_sn M t := funext (fun j => mI_ne (Or.inl (by decide)))
    have s2 : (mI M 175 1 (0 : Int32)).2.1 179 = M.2.1 179 := funext (fun j => mI_ne (Or.inl (by decide)))
    have s3 : n_cc (mI M 175 1 (0 : Int32)) t = n_cc M t := by
      unfold n_cc
      rw [mI_ne (Or.inl (by decide))]
    refine Ok_s ⟨⟨?_, ?_⟩, ?_⟩
    · show r_O (y_sn (mI M 175 1 (0 : Int32)) t) z.2.2
      rw [s1]
      exact h.2.1.1
    · show r_K ((mI M 175 1 (0 : Int32)).2.1 179) (48 * t) ms
      rw [s2]
      exact h.2.1.2
    · show n_cc (mI M 175 1 (0 : Int32)) t = ms.length
      rw [s3]
      exact h.2.2
theorem E_rd_L35M {T : gM} (B : z_B T) {t : Nat} : ∀ (n m cl : Nat) {l1 : Int32} {M : gM} {ms : List (Nat × Nat × Nat)} {r : Nat ⊕ (sS × (Nat × Nat × Nat))}, y_HT M → ((l1 = 0 ∧ M.2.1 175 9 ≠ 0 ∧ ∃ e, r = .inl e ∧ (M.2.1 175 9).toInt = (e : Int)) ∨ (l1 = 1 ∧ p_N t cl M ∧ ∃ y mk1, (r = .inr (y, mk1) ∧ r_X T t M y) ∧ r_K (M.2.1 179) (48 * t) (mk1 :: ms) ∧ cl = ms.length + 1)) → (l1 = 0 → 1 ≤ n) → (l1 ≠ 0 → n_s M - n_x M < n) → cl + m = 14 → Ok (F_X12_readsAll_L35 n (some 175) l1 M) (e_ZM t (s_nx T m cl ms r)) := by
  intro n
  induction n with
  | zero =>
    intro m cl l1 M ms r H h a1 a2 hm
    exfalso
    by_cases e : l1 = 0
    · have := a1 e
      omega
    · have := a2 e
      omega
  | succ n ih =>
    intro m cl l1 M ms r H h a1 a2 hm
    show Ok (F_X12_readsAll_b35 (F_X12_readsAll_L35 n) (some 175) l1 M) _
    delta F_X12_readsAll_b35
    rcases h with ⟨h, h2, e, er, he⟩ | ⟨h, N, y, mk1, ⟨er, X⟩, KK, hcl⟩
    · subst er
      rw [if_pos h]
      delta F_X12_readsAll_b66
      rw [if_pos h]
      exact E_rd_b88M (r := (.inl e : Nat ⊕ (sS × List (Nat × Nat × Nat)))) H ⟨he, h2⟩
    · subst er
      have hx := N.1.2.1
      have s1 := n_s1 H
      have a3 := a2 (by rw [h]; decide)
      have k1 := n_sk_le hx.2
      obtain ⟨p, hp⟩ : ∃ p, p = n_sk M (n_x M) := ⟨_, rfl⟩
      obtain ⟨ex, X3⟩ := r_Xsee X H hx.2
      have px : p = y.1 := hp.trans ex
      rw [← px] at X3
      rw [← hp] at k1
      obtain ⟨H3, f3⟩ := n_at_set (p := p) H (by omega)
      have x3 : n_x (n_at M p) = p := n_at_x (by omega)
      have s3 : n_s (n_at M p) = n_s M := n_at_s
      have N3 : p_N t cl (n_at M p) := ⟨p_K_of N.1 H3 f3 (by decide) (by rw [x3]; omega), by rw [n_atk (by decide)]; exact N.2.1, N.2.2⟩
      have K3 : (n_at M p).2.1 179 = M.2.1 179 := n_ata (by decide)
      have ec : n_c M p = n_c T p := congrFun (n_T X.1.1 X.1.2).2.2.1.2 p
      have k59 := k_s1 (T := T) (p := p) (c := (59 : Int32)) (n := 59) rfl (by omega) (by omega) (by omega) (by omega)
      have v8 : (n_at M p).2.1 175 8 = Int32.ofNat p := n_at8
      have xi : (Int32.ofNat p).toInt = (p : Int) := i_ofNat (by omega)
      have c12 := N.2.2
      unfold s_nx
      dsimp only
      rw [if_neg (by rw [h]; decide), e_gO H, Option.bind_some, R_see H hx.2, ← hp, Option.bind_some]
      dsimp only
      refine Ok_i (fun e => ?_) (fun e => ?_)
      · have hlt := n_c_lt e (by decide)
        rw [ec] at e
        have kk : k_kind T y.1 = 59 := by rw [← px]; exact k59.1.mp e
        have kg : n_sk T (p + 1) = k_go T y.1 := by rw [← px]; exact (k59.2 e).symm
        rw [if_neg (show ¬ k_kind T y.1 = 256 by rw [kk]; decide), if_pos kk]
        generalize n_at M p = M3 at H3 x3 s3 N3 X3 K3 ⊢
        rw [e_gI H3, Option.bind_some, e_pI H3, Option.bind_some, n_next H3]
        have h9 := N3.1.2.1
        obtain ⟨H5, f5⟩ := n_at_set (p := n_x M3 + 1) H3 (by omega)
        have x5 : n_x (n_at M3 (n_x M3 + 1)) = n_x M3 + 1 := n_at_x (by omega)
        have s5 : n_s (n_at M3 (n_x M3 + 1)) = n_s M3 := n_at_s
        have N5 : p_N t cl (n_at M3 (n_x M3 + 1)) := ⟨p_K_of N3.1 H5 f5 (by decide) (by rw [x5]; omega), by rw [n_atk (by decide)]; exact N3.2.1, N3.2.2⟩
        have X5 : r_X T t (n_at M3 (n_x M3 + 1)) (k_go T y.1, y.2) := r_Xat X3 (by omega) (by rw [x3]; exact kg)
        have K5 : (n_at M3 (n_x M3 + 1)).2.1 179 = M.2.1 179 := (n_ata (by decide)).trans K3
        generalize n_at M3 (n_x M3 + 1) = M5 at H5 x5 s5 N5 X5 K5 ⊢
        rw [e_gC H5, Option.bind_some]
        refine Ok_b (Ok_and (P_clauseHere N5) (E_clauseHereM B N5 X5)) (fun y2 z => ?_)
        obtain ⟨v7, M8⟩ := y2
        obtain ⟨⟨⟨H8, G8⟩, z⟩, E, E14⟩ := z
        have s8 := n_fs G8.1 (by decide)
        dsimp only at H8 G8 z s8 E E14 ⊢
        obtain ⟨m', rfl⟩ : ∃ m', m = m' + 1 := ⟨m - 1, by omega⟩
        rw [s_tl_S]
        refine ih m' (cl + 1) H8 ?_ (fun _ => by omega) (fun hne => ?_) (by omega)
        · cases hit : s_cl T (cl + 1) (k_go T y.1, y.2) with
          | inl e =>
            rw [hit] at E
            obtain ⟨E1, E2⟩ := E
            dsimp only at E1 E2
            rcases z with z | ⟨z, _⟩
            · exact Or.inl ⟨E1, z.2, e, rfl, E2⟩
            · rw [E1] at z
              exact absurd z (by decide)
          | inr ym =>
            obtain ⟨y', m''⟩ := ym
            rw [hit] at E
            obtain ⟨⟨E1, E2⟩, E3, E4⟩ := E
            dsimp only at E1 E2 E3 E4
            rcases z with z | ⟨_, ⟨c2, N8⟩, _⟩
            · rw [E1] at z
              exact absurd z.1 (by decide)
            · have q1 := E14 E1
              have q2 := N8.2.1
              have : c2 = cl + 1 := by omega
              subst this
              refine Or.inr ⟨E1, N8, y', m'', ⟨rfl, E2⟩, ⟨?_, ?_⟩, by show cl + 1 = ms.length + 1 + 1; omega⟩
              · show ((M8.2.1 179 (48 * t + 4 * (ms.length + 1))).toInt = _ ∧ (M8.2.1 179 (48 * t + 4 * (ms.length + 1) + 1)).toInt = _) ∧ (M8.2.1 179 (48 * t + 4 * (ms.length + 1) + 2)).toInt = _ ∧ (M8.2.1 179 (48 * t + 4 * (ms.length + 1) + 3)).toInt = _
                rw [← hcl]
                exact E3
              · refine r_K_c (fun q h1 h2 => ?_) KK
                have : q < 48 * t + 4 * (ms.length + 1) := h2
                rw [E4 q (by omega), K5]
        · rcases z with z | ⟨_, ⟨c2, N8⟩, z3⟩
          · exact absurd z.1 hne
          · have := N8.1.2.1.2
            omega
      · rw [ec] at e
        have kn : k_kind T y.1 ≠ 59 := by rw [← px]; exact mt k59.1.mpr e
        delta F_X12_readsAll_b66
        have X3b := X3
        have se2 : F_X12_see (some 175) (n_at M p) = some (n_c M p, n_at M p) := R_see2 H hx.2 hp
        rw [if_neg (by rw [h]; decide), e_gO H3, Option.bind_some, se2, Option.bind_some]
        dsimp only
        by_cases cE : n_s T ≤ p
        · rw [if_pos (show n_c M p = -1 by rw [ec]; exact (n_c_end B).mpr cE), if_pos (show k_kind T y.1 = 256 by rw [← px]; exact (k_256 B).mpr cE)]
          refine E_rd_b88M H3 ?_
          refine ⟨X3.2.2.1.1, ⟨X3.2.2.2.2, ?_⟩, ?_⟩
          · show r_K ((n_at M p).2.1 179) (48 * t) (mk1 :: ms)
            rw [K3]
            exact KK
          · rw [N3.1.2.2.1]
            exact hcl
        · rw [if_neg (show ¬ n_c M p = -1 by rw [ec]; exact mt (n_c_end B).mp cE), if_neg (show ¬ k_kind T y.1 = 256 by rw [← px]; exact mt (k_256 B).mp cE), if_neg kn]
          rw [e_gI H3, Option.bind_some, v8, e_gC H3, Option.bind_some, R_fails H3, Option.bind_some]
          dsimp only
          obtain ⟨H9, f9⟩ := n_f_set (k := 0) (p := Int32.ofNat p) H3
          refine E_rd_b88M H9 ⟨?_, n_f9 xi (by omega) (by decide)⟩
          rw [← px]
          exact n_f_0 X3.2.2.1.1 xi (by omega) rfl (by decide)
theorem E_readsAllM {T : gM} (B : z_B T) {t : Nat} {M : gM} (H : y_HT M) (ht : t ≤ 5) (e11 : (M.2.1 175 11).toInt = (t : Int)) (hc : n_cc M t = 0) (hb : n_b M = n_b T) (hs : n_s M = n_s T) : Ok (F_X12_readsAll (some 175) M) (e_ZM t (s_text T)) := by
  delta F_X12_readsAll F_X12_readsAll_b0
  have ct : (M.2.1 175 11).toNatClampNeg = t := i_cl e11
  rw [e_gR H (w := 178) rfl (by decide), Option.bind_some, e_gI H, Option.bind_some, e_sI H (i := 178) (n := 7) rfl (by omega) (by omega), Option.bind_some, ct]
  obtain ⟨H3, f3⟩ := y_set (M' := mI M 178 t (0 : Int32)) (S := p_C) H (i := 178) (k := t) (by decide) rfl rfl y_mI1 (fun j a hj => y_mI2 hj) rfl (y_in (lo := 0) (hi := 400) rfl (by decide)) (show Nat.testBit p_C 43 = true by decide)
  have l3 : (mI M 178 t (0 : Int32)).2.1 178 t = 0 := y_mI1
  have r3 : ∀ i k, i ≠ 178 → (mI M 178 t (0 : Int32)).2.1 i k = M.2.1 i k := fun i k h => mI_ne (Or.inl h)
  generalize mI M 178 t (0 : Int32) = M3 at H3 f3 l3 r3 ⊢
  rw [e_pI H3, Option.bind_some]
  obtain ⟨H4, f4⟩ := y_set (M' := mI M3 175 14 (0 : Int32)) (S := p_C) H3 (i := 175) (k := 14) (by decide) rfl rfl y_mI1 (fun j a hj => y_mI2 hj) rfl (y_full rfl) (by decide)
  have w4 : (mI M3 175 14 (0 : Int32)).2.1 175 14 = 0 := y_mI1
  have r4 : ∀ i k, i ≠ 175 ∨ k ≠ 14 → (mI M3 175 14 (0 : Int32)).2.1 i k = M3.2.1 i k := fun i k h => mI_ne h
  generalize mI M3 175 14 (0 : Int32) = M4 at H4 f4 w4 r4 ⊢
  rw [e_pI H4, Option.bind_some]
  obtain ⟨H5, f5⟩ := y_set (M' := mI M4 175 8 (0 : Int32)) (S := p_C) H4 (i := 175) (k := 8) (by decide) rfl rfl y_mI1 (fun j a hj => y_mI2 hj) rfl (y_in (lo := 0) (hi := 400) rfl (by decide)) (by decide)
  have w5 : (mI M4 175 8 (0 : Int32)).2.1 175 8 = 0 := y_mI1
  have r5 : ∀ i k, i ≠ 175 ∨ k ≠ 8 → (mI M4 175 8 (0 : Int32)).2.1 i k = M4.2.1 i k := fun i k h => mI_ne h
  generalize mI M4 175 8 (0 : Int32) = M5 at H5 f5 w5 r5 ⊢
  rw [e_pI H5, Option.bind_some]
  obtain ⟨H6, f6⟩ := y_set (M' := mI M5 175 9 (0 : Int32)) (S := p_C) H5 (i := 175) (k := 9) (by decide) rfl rfl y_mI1 (fun j a hj => y_mI2 hj) rfl (y_full rfl) (by decide)
  have w6 : (mI M5 175 9 (0 : Int32)).2.1 175 9 = 0 := y_mI1
  have r6 : ∀ i k, i ≠ 175 ∨ k ≠ 9 → (mI M5 175 9 (0 : Int32)).2.1 i k = M5.2.1 i k := fun i k h => mI_ne h
  generalize mI M5 175 9 (0 : Int32) = M6 at H6 f6 w6 r6 ⊢
  rw [e_pI H6, Option.bind_some]
  obtain ⟨H7, f7⟩ := y_set (M' := mI M6 175 12 (0 : Int32)) (S := p_C) H6 (i := 175) (k := 12) (by decide) rfl rfl y_mI1 (fun j a hj => y_mI2 hj) rfl (y_in (lo := 0) (hi := 60) rfl (by decide)) (by decide)
  have w7 : (mI M6 175 12 (0 : Int32)).2.1 175 12 = 0 := y_mI1
  have r7 : ∀ i k, i ≠ 175 ∨ k ≠ 12 → (mI M6 175 12 (0 : Int32)).2.1 i k = M6.2.1 i k := fun i k h => mI_ne h
  generalize mI M6 175 12 (0 : Int32) = M7 at H7 f7 w7 r7 ⊢
  have e : ∀ i, i ≠ 175 → i ≠ 178 → ∀ k, M7.2.1 i k = M.2.1 i k := fun i h1 h2 k => by rw [r7 i k (Or.inl h1), r6 i k (Or.inl h1), r5 i k (Or.inl h1), r4 i k (Or.inl h1), r3 i k h2]
  have e11' : M7.2.1 175 11 = M.2.1 175 11 := by rw [r7 _ _ (Or.inr (by decide)), r6 _ _ (Or.inr (by decide)), r5 _ _ (Or.inr (by decide)), r4 _ _ (Or.inr (by decide)), r3 _ _ (by decide)]
  have e1 : M7.2.1 175 1 = M.2.1 175 1 := by rw [r7 _ _ (Or.inr (by decide)), r6 _ _ (Or.inr (by decide)), r5 _ _ (Or.inr (by decide)), r4 _ _ (Or.inr (by decide)), r3 _ _ (by decide)]
  have e14 : M7.2.1 175 14 = 0 := by rw [r7 _ _ (Or.inr (by decide)), r6 _ _ (Or.inr (by decide)), r5 _ _ (Or.inr (by decide)), w4]
  have e8 : M7.2.1 175 8 = 0 := by rw [r7 _ _ (Or.inr (by decide)), r6 _ _ (Or.inr (by decide)), w5]
  have e9 : M7.2.1 175 9 = 0 := by rw [r7 _ _ (Or.inr (by decide)), w6]
  have el : M7.2.1 178 t = 0 := by rw [r7 _ _ (Or.inl (by decide)), r6 _ _ (Or.inl (by decide)), r5 _ _ (Or.inl (by decide)), r4 _ _ (Or.inl (by decide)), l3]
  have x7 : n_x M7 = 0 := by unfold n_x; rw [e8]; rfl
  have l7 : n_l M7 t = 0 := by unfold n_l; rw [el]; rfl
  have s7 : n_s M7 = n_s M := by unfold n_s; rw [e1]
  have N7 : p_N t 0 M7 := by
    refine ⟨⟨⟨⟨H7, ht⟩, by rw [e11']; exact e11⟩, ⟨by rw [l7]; exact Nat.zero_le _, by rw [x7]; exact Nat.zero_le _⟩, ?_, fun k hk => absurd hk (Nat.not_lt_zero _)⟩, by rw [e14]; rfl, by omega⟩
    unfold n_cc
    rw [e 180 (by decide) (by decide) t]
    exact hc
  have X7 : r_X T t M7 (n_sk T 0, 0, []) := by
    refine ⟨⟨(funext (fun q => e 176 (by decide) (by decide) q)).trans hb, s7.trans hs⟩, by rw [x7], ⟨e9, by unfold n_m; rw [w7]; rfl⟩, l7, trivial⟩
  rw [e_gO H7, Option.bind_some]
  refine Ok_b (Ok_and (P_clauseHere N7) (E_clauseHereM B N7 X7)) (fun y z => ?_)
  obtain ⟨v9, M10⟩ := y
  obtain ⟨⟨⟨H10, G10⟩, z⟩, E, E14⟩ := z
  dsimp only at H10 G10 z E E14 ⊢
  have s10 := n_s1 H10
  have ht1 : s_text T = s_nx T 13 1 [] (s_cl T 1 (n_sk T 0, 0, [])) := s_tl_S
  rw [ht1]
  refine E_rd_L35M B (t := t) _ 13 1 H10 ?_ (fun _ => n_fu (by omega)) (fun _ => n_fu (by omega)) rfl
  cases hit : s_cl T (0 + 1) (n_sk T 0, 0, []) with
  | inl e =>
    have hit2 : s_cl T 1 (n_sk T 0, 0, []) = .inl e := hit
    rw [hit] at E
    obtain ⟨E1, E2⟩ := E
    dsimp only at E1 E2
    rcases z with z | ⟨z, _⟩
    · exact Or.inl ⟨E1, z.2, e, rfl, E2⟩
    · rw [E1] at z
      exact absurd z (by decide)
  | inr ym =>
    obtain ⟨y', m''⟩ := ym
    have hit2 : s_cl T 1 (n_sk T 0, 0, []) = .inr (y', m'') := hit
    rw [hit] at E
    obtain ⟨⟨E1, E2⟩, E3, E4⟩ := E
    dsimp only at E1 E2 E3 E4
    rcases z with z | ⟨_, ⟨c2, N8⟩, _⟩
    · rw [E1] at z
      exact absurd z.1 (by decide)
    · have q1 := E14 E1
      have q2 := N8.2.1
      have : c2 = 1 := by omega
      subst this
      exact Or.inr ⟨E1, N8, y', m'', ⟨rfl, E2⟩, ⟨E3, trivial⟩, rfl⟩
/-- rule(), of the reference: what it leaves -/
theorem E_ruleM {T M : gM} {rc : Nat} (B : z_B T) (H : y_HT M) (hb : n_b M = n_b T) (hs : n_s M = n_s T) (hr : (M.2.1 175 2).toInt = (rc : Int)) (h6 : rc < 6) : Ok (F_X12_rule (some 175) M) (fun r => ((∀ q, q < 400 * rc → r.2.2.1 177 q = M.2.1 177 q) ∧ (∀ q, q < 48 * rc → r.2.2.1 179 q = M.2.1 179 q) ∧ ∀ k, k ≠ rc → r.2.2.1 180 k = M.2.1 180 k) ∧ (match s_text T with
    | .inl e => True
    | .inr (y, ms) => (r_O (y_sn r.2 rc) y.2.2 ∧ r_K (r.2.2.1 179) (48 * rc) ms) ∧ (r.2.2.1 180 rc).toInt = (ms.length : Int))) := by
  delta F_X12_rule F_X12_rule_b0
  have z6 : (6 : Int32).toInt = 6 := rfl
  rw [e_gI H, Option.bind_some, if_neg (fun z => by rw [z] at hr; omega)]
  rw [Option.bind_some, e_pI H, Option.bind_some]
  obtain ⟨H3, f3⟩ := y_set (M' := mI M 175 11 (M.2.1 175 2)) (S := p_C + 2 ^ 2 + 2 ^ 11) H (i := 175) (k := 11) (by decide) rfl rfl y_mI1 (fun j a hj => y_mI2 hj) rfl (y_in (lo := 0) (hi := 6) rfl ⟨by omega, by omega⟩) (by decide)
  have w3 : (mI M 175 11 (M.2.1 175 2)).2.1 175 11 = M.2.1 175 2 := y_mI1
  have r3 : ∀ i k, i ≠ 175 ∨ k ≠ 11 → (mI M 175 11 (M.2.1 175 2)).2.1 i k = M.2.1 i k := fun i k h => mI_ne h
  generalize mI M 175 11 (M.2.1 175 2) = M3 at H3 f3 w3 r3 ⊢
  have ct : (M3.2.1 175 11).toNatClampNeg = rc := i_cl (by rw [w3]; exact hr)
  rw [e_gR H3 (w := 180) rfl (by decide), Option.bind_some, e_gI H3, Option.bind_some, e_sI H3 (i := 180) (n := 6) rfl (by rw [w3]; omega) (by rw [w3]; omega), Option.bind_some, ct]
  obtain ⟨H6, f6⟩ := y_set (M' := mI M3 180 rc (0 : Int32)) (S := p_C + 2 ^ 2 + 2 ^ 11) H3 (i := 180) (k := rc) (by decide) rfl rfl y_mI1 (fun j a hj => y_mI2 hj) rfl (y_in (lo := 0) (hi := 12) rfl (by decide)) (show Nat.testBit (p_C + 2 ^ 2 + 2 ^ 11) 45 = true by decide)
  have w6 : (mI M3 180 rc (0 : Int32)).2.1 180 rc = 0 := y_mI1
  have r6 : ∀ i k, i ≠ 180 ∨ k ≠ rc → (mI M3 180 rc (0 : Int32)).2.1 i k = M3.2.1 i k := fun i k h => mI_ne h
  generalize mI M3 180 rc (0 : Int32) = M6 at H6 f6 w6 r6 ⊢
  have e11 : (M6.2.1 175 11).toInt = (rc : Int) := by rw [r6 _ _ (Or.inl (by decide)), w3]; exact hr
  have e1 : M6.2.1 175 1 = M.2.1 175 1 := (r6 _ _ (Or.inl (by decide))).trans (r3 _ _ (Or.inr (by decide)))
  have e176 : n_b M6 = n_b M := funext (fun q => (r6 176 q (Or.inl (by decide))).trans (r3 176 q (Or.inl (by decide))))
  have c6 : n_cc M6 rc = 0 := by unfold n_cc; rw [w6]; rfl
  have e177 : ∀ q, M6.2.1 177 q = M.2.1 177 q := fun q => (r6 177 q (Or.inl (by decide))).trans (r3 177 q (Or.inl (by decide)))
  have e179 : ∀ q, M6.2.1 179 q = M.2.1 179 q := fun q => (r6 179 q (Or.inl (by decide))).trans (r3 179 q (Or.inl (by decide)))
  have e180 : ∀ q, q ≠ rc → M6.2.1 180 q = M.2.1 180 q := fun q hq => (r6 180 q (Or.inr hq)).trans (r3 180 q (Or.inl (by decide)))
  rw [e_gO H6, Option.bind_some]
  have sT : n_s M6 = n_s T := by rw [← hs]; unfold n_s; rw [e1]
  refine Ok_b (Ok_and (P_readsAllR H6 (by omega) e11 c6) (Ok_and (E_readsAll B H6 (by omega) e11 c6 (e176.trans hb) sT) (E_readsAllM B H6 (by omega) e11 c6 (e176.trans hb) sT))) (fun y z => ?_)
  obtain ⟨v8, M9⟩ := y
  obtain ⟨⟨⟨H9, G9⟩, z⟩, ⟨E1, E⟩, EM⟩ := z
  dsimp only at H9 G9 z E1 E EM ⊢
  have fr : (∀ q, q < 400 * rc → M9.2.1 177 q = M.2.1 177 q) ∧ (∀ q, q < 48 * rc → M9.2.1 179 q = M.2.1 179 q) ∧ ∀ k, k ≠ rc → M9.2.1 180 k = M.2.1 180 k := ⟨fun q hq => (G9.2.1 q hq).trans (e177 q), fun q hq => (G9.2.2.1 q hq).trans (e179 q), fun k hk => (G9.2.2.2 k hk).trans (e180 k hk)⟩
  generalize s_text T = r at E EM ⊢
  cases r with
  | inl e =>
    obtain ⟨h5, g5⟩ := E
    subst h5
    rw [if_pos rfl, e_gI H9, Option.bind_some]
    exact Ok_s ⟨fr, trivial⟩
  | inr y =>
    obtain ⟨yy, ms⟩ := y
    have h5 : v8 = 1 := E
    subst h5
    have k2 : M9.2.1 175 2 = M.2.1 175 2 := (y_fk (i := 175) (k := 2) G9.1 (by decide)).trans ((r6 _ _ (Or.inl (by decide))).trans (r3 _ _ (Or.inr (by decide))))
    have inc := n_inc (x := M9.2.1 175 2) (n := rc) (by rw [k2]; exact hr) (by omega)
    have ci : (Int32.ofNat (rc + 1)).toInt = ((rc + 1 : Nat) : Int) := i_ofNat (by omega)
    rw [if_neg (by decide), e_gI H9, Option.bind_some, e_pI H9, Option.bind_some, inc]
    have H11 : y_HT (mI M9 175 2 (Int32.ofNat (rc + 1))) := (y_set (M' := mI M9 175 2 (Int32.ofNat (rc + 1))) (S := p_C + 2 ^ 2 + 2 ^ 11) H9 (i := 175) (k := 2) (by decide) rfl rfl y_mI1 (fun j a hj => y_mI2 hj) rfl (y_in (lo := 0) (hi := 6) rfl (by omega)) (by decide)).1
    rw [e_gI H11, Option.bind_some]
    have o11 : ∀ i, i ≠ 175 → (mI M9 175 2 (Int32.ofNat (rc + 1))).2.1 i = M9.2.1 i := fun i hi => funext (fun q => mI_ne (Or.inl hi))
    have sn : y_sn (mI M9 175 2 (Int32.ofNat (rc + 1))) rc = y_sn M9 rc := funext (fun j => mI_ne (Or.inl (by decide)))
    refine Ok_s ⟨?_, ⟨?_, ?_⟩, ?_⟩
    · show (∀ q, q < 400 * rc → (mI M9 175 2 (Int32.ofNat (rc + 1))).2.1 177 q = M.2.1 177 q) ∧ (∀ q, q < 48 * rc → (mI M9 175 2 (Int32.ofNat (rc + 1))).2.1 179 q = M.2.1 179 q) ∧ ∀ k, k ≠ rc → (mI M9 175 2 (Int32.ofNat (rc + 1))).2.1 180 k = M.2.1 180 k
      rw [o11 177 (by decide), o11 179 (by decide), o11 180 (by decide)]
      exact fr
    · show r_O (y_sn (mI M9 175 2 (Int32.ofNat (rc + 1))) rc) yy.2.2
      rw [sn]
      exact EM.1.1
    · show r_K ((mI M9 175 2 (Int32.ofNat (rc + 1))).2.1 179) (48 * rc) ms
      rw [o11 179 (by decide)]
      exact EM.1.2
    · show ((mI M9 175 2 (Int32.ofNat (rc + 1))).2.1 180 rc).toInt = _
      rw [o11 180 (by decide)]
      have q := EM.2
      have r := n_cc1 H9 rc
      rw [r.1, q]
-- 7zac.hpure
/-! what a HOUSE that was told is like -/
theorem hs_num_r {T : gM} {p : Nat} {lo hi : Int} {z : Nat × Int32} (h : hs_num T p lo hi = .inr z) : lo ≤ z.2.toInt ∧ z.2.toInt ≤ hi := by
  unfold hs_num at h
  by_cases c : n_D T p = true
  · rw [if_pos c] at h
    by_cases d : n_ok T p lo hi = true
    · rw [if_pos d] at h
      have e := Sum.inr.inj h
      rw [← e]
      unfold n_ok at d
      have := of_decide_eq_true d
      exact this.2
    · rw [if_neg d] at h
      cases h
  · rw [if_neg c] at h
    cases h
theorem s_V_of {σ σ' : Nat → Int32} (V : s_V σ) (h : ∀ j, (j = 1 ∨ j = 2) ∨ (10 ≤ j ∧ j < 52) ∨ 59 ≤ j → σ' j = σ j) : s_V σ' := by
  have nn := s_Vn V
  obtain ⟨V1, V2, V3, V4⟩ := V
  have h1 := h 1 (by omega)
  have h2 := h 2 (by omega)
  unfold s_V s_va s_st
  rw [h1, h2]
  refine ⟨V1, fun a t ha ht => ?_, fun t ht => ?_, fun a ha => ?_⟩
  · rw [h _ (by omega), h _ (by omega)]
    exact V2 a t ha ht
  · rw [h _ (by omega), h _ (by omega), h _ (by omega), h _ (by omega)]
    exact V3 t ht
  · rw [h _ (by omega), h _ (by omega)]
    exact V4 a ha
def hv_I (σ : Nat → Int32) : Prop := s_V σ ∧ (σ 4 = 0 ∧ (0 ≤ (σ 5).toInt ∧ (σ 5).toInt ≤ 20)) ∧ s_Qc σ ∧ s_Qd σ
theorem hv_lo {σ σ' : Nat → Int32} (I : hv_I σ) (h : ∀ j, (j = 1 ∨ j = 2) ∨ (10 ≤ j ∧ j < 59) ∨ 59 ≤ j → σ' j = σ j) (h4 : σ' 4 = σ 4) (h5 : 0 ≤ (σ' 5).toInt ∧ (σ' 5).toInt ≤ 20) : hv_I σ' :=
  ⟨s_V_of I.1 (fun j hj => h j (by omega)), ⟨h4.trans I.2.1.1, h5⟩, s_Qc_c I.2.2.1 (h 2 (by omega)) (fun j _ _ => h j (by omega)), s_Qd_c I.2.2.2 (h 1 (by omega)) (fun t _ => h _ (by omega))⟩
theorem hv_thing {σ : Nat → Int32} {a b c : Int32} (I : hv_I σ) (hn : hs_n σ < 7) (ha : 0 ≤ a.toInt ∧ a.toInt ≤ 9) (hb : 0 ≤ b.toInt ∧ b.toInt ≤ 20) (hc : 0 ≤ c.toInt ∧ c.toInt ≤ 99) : hv_I (hs_set (hs_set (hs_set (hs_set (hs_set σ (10 + 4 * hs_n σ) a) (11 + 4 * hs_n σ) b) (12 + 4 * hs_n σ) c) (13 + 4 * hs_n σ) (-1)) 1 (σ 1 + 1)) := by
  obtain ⟨V, ⟨I4, I5⟩, Qc, Qd⟩ := I
  have nn := s_Vn V
  obtain ⟨n, hn'⟩ : ∃ n, n = hs_n σ := ⟨_, rfl⟩
  rw [← hn'] at hn nn ⊢
  obtain ⟨τ, hτ⟩ : ∃ τ, τ = hs_set (hs_set (hs_set (hs_set (hs_set σ (10 + 4 * n) a) (11 + 4 * n) b) (12 + 4 * n) c) (13 + 4 * n) (-1)) 1 (σ 1 + 1) := ⟨_, rfl⟩
  rw [← hτ]
  have e1 : τ 1 = σ 1 + 1 := by rw [hτ, hs_se]
  have ea : τ (10 + 4 * n) = a := by rw [hτ, hs_sn (by omega), hs_sn (by omega), hs_sn (by omega), hs_sn (by omega), hs_se]
  have eb : τ (11 + 4 * n) = b := by rw [hτ, hs_sn (by omega), hs_sn (by omega), hs_sn (by omega), hs_se]
  have ec : τ (12 + 4 * n) = c := by rw [hτ, hs_sn (by omega), hs_sn (by omega), hs_se]
  have ed : τ (13 + 4 * n) = -1 := by rw [hτ, hs_sn (by omega), hs_se]
  have o : ∀ j, j ≠ 1 → j < 10 + 4 * n ∨ 13 + 4 * n < j → τ j = σ j := fun j h1 h2 => by rw [hτ, hs_sn h1, hs_sn (by omega), hs_sn (by omega), hs_sn (by omega), hs_sn (by omega)]
  have e1' : (τ 1).toInt = (σ 1).toInt + 1 := by rw [e1]; exact i_addc (n := 1) rfl (by omega) (by omega)
  have e2 : τ 2 = σ 2 := o 2 (by decide) (by omega)
  clear hτ
  have en : hs_n τ = n + 1 := i_cl (by omega)
  have hd : s_Qd τ := by
    refine ⟨by omega, fun t ht => ?_⟩
    rw [en] at ht
    by_cases c' : t = n
    · subst c'
      rw [ed]
      decide
    · rw [o _ (by omega) (by omega)]
      exact Qd.2 t (by omega)
  refine ⟨?_, ⟨(o 4 (by decide) (by omega)).trans I4, by rw [o 5 (by decide) (by omega)]; exact I5⟩, s_Qc_c Qc e2 (fun j h1 h2 => o j (by omega) (by omega)), hd⟩
  obtain ⟨V1, V2, V3, V4⟩ := V
  unfold s_V s_va s_st
  refine ⟨⟨by omega, by rw [e2]; exact V1.2⟩, fun h t hh ht => ?_, fun t ht => ?_, fun h hh => ?_⟩
  · rw [e2] at hh
    rw [o _ (by omega) (by omega), o _ (by omega) (by omega)]
    exact V2 h t hh ht
  · by_cases c' : t = n
    · subst c'
      rw [ea, eb, ec, ed]
      exact ⟨⟨ha, hb⟩, hc, by decide⟩
    · rw [o _ (by omega) (by omega), o _ (by omega) (by omega), o _ (by omega) (by omega), o _ (by omega) (by omega)]
      exact V3 t (by omega)
  · rw [e2] at hh
    rw [o _ (by omega) (by omega), o _ (by omega) (by omega)]
    exact V4 h hh
theorem hv_heir {σ : Nat → Int32} {a b : Int32} (I : hv_I σ) (hm : hs_m σ < 7) (ha : 0 ≤ a.toInt ∧ a.toInt ≤ 99) (hb : 0 ≤ b.toInt ∧ b.toInt ≤ 100) : hv_I (hs_set (hs_new (hs_set (hs_set (hs_set σ (38 + 2 * hs_m σ) a) (39 + 2 * hs_m σ) b) (52 + hs_m σ) 0) (hs_m σ)) 2 (σ 2 + 1)) := by
  obtain ⟨V, ⟨I4, I5⟩, Qc, Qd⟩ := I
  have nn := s_Vn V
  obtain ⟨m, hm'⟩ : ∃ m, m = hs_m σ := ⟨_, rfl⟩
  rw [← hm'] at hm nn ⊢
  obtain ⟨τ, hτ⟩ : ∃ τ, τ = hs_set (hs_new (hs_set (hs_set (hs_set σ (38 + 2 * m) a) (39 + 2 * m) b) (52 + m) 0) m) 2 (σ 2 + 1) := ⟨_, rfl⟩
  rw [← hτ]
  have e2 : τ 2 = σ 2 + 1 := by rw [hτ, hs_se]
  have new0 : ∀ {ρ : Nat → Int32} {j : Nat}, ¬ (59 + 14 * m ≤ j ∧ j < 73 + 14 * m) → hs_new ρ m j = ρ j := fun h => if_neg h
  have ea : τ (38 + 2 * m) = a := by rw [hτ, hs_sn (by omega), new0 (by omega), hs_sn (by omega), hs_sn (by omega), hs_se]
  have eb : τ (39 + 2 * m) = b := by rw [hτ, hs_sn (by omega), new0 (by omega), hs_sn (by omega), hs_se]
  have ec : τ (52 + m) = 0 := by rw [hτ, hs_sn (by omega), new0 (by omega), hs_se]
  have en : ∀ t, t < 7 → τ (59 + 14 * m + 2 * t) = -1 ∧ τ (60 + 14 * m + 2 * t) = 0 := fun t ht => by
    rw [hτ, hs_sn (by omega), hs_sn (by omega)]
    unfold hs_new
    rw [if_pos (by omega), if_pos (by omega), if_pos (by omega), if_neg (by omega)]
    exact ⟨rfl, rfl⟩
  have o : ∀ j, j ≠ 2 → j ≠ 38 + 2 * m → j ≠ 39 + 2 * m → j ≠ 52 + m → ¬ (59 + 14 * m ≤ j ∧ j < 73 + 14 * m) → τ j = σ j := fun j h1 h2 h3 h4 h5 => by rw [hτ, hs_sn h1, new0 h5, hs_sn h4, hs_sn h3, hs_sn h2]
  have e2' : (τ 2).toInt = (σ 2).toInt + 1 := by rw [e2]; exact i_addc (n := 1) rfl (by omega) (by omega)
  have e1 : τ 1 = σ 1 := o 1 (by decide) (by omega) (by omega) (by omega) (by omega)
  have em : hs_m τ = m + 1 := by
    have : (τ 2).toInt = ((m + 1 : Nat) : Int) := by omega
    exact i_cl this
  clear hτ
  refine ⟨?_, ⟨(o 4 (by decide) (by omega) (by omega) (by omega) (by omega)).trans I4, by rw [o 5 (by decide) (by omega) (by omega) (by omega) (by omega)]; exact I5⟩, ⟨by omega, fun x y hx hy => ?_⟩, s_Qd_c Qd e1 (fun t ht => o _ (by omega) (by omega) (by omega) (by omega) (by omega))⟩
  · obtain ⟨V1, V2, V3, V4⟩ := V
    unfold s_V s_va s_st
    refine ⟨⟨by rw [e1]; exact V1.1, by omega⟩, fun h t hh ht => ?_, fun t ht => ?_, fun h hh => ?_⟩
    · by_cases c' : h = m
      · subst c'
        exact Or.inl (en t ht)
      · rw [o _ (by omega) (by omega) (by omega) (by omega) (by omega), o _ (by omega) (by omega) (by omega) (by omega) (by omega)]
        exact V2 h t (by omega) ht
    · rw [e1] at ht
      rw [o _ (by omega) (by omega) (by omega) (by omega) (by omega), o _ (by omega) (by omega) (by omega) (by omega) (by omega), o _ (by omega) (by omega) (by omega) (by omega) (by omega), o _ (by omega) (by omega) (by omega) (by omega) (by omega)]
      exact V3 t ht
    · by_cases c' : h = m
      · subst c'
        rw [ea, eb]
        exact ⟨ha, hb⟩
      · rw [o _ (by omega) (by omega) (by omega) (by omega) (by omega), o _ (by omega) (by omega) (by omega) (by omega) (by omega)]
        exact V4 h (by omega)
  · rw [em] at hx ⊢
    by_cases c' : x = m
    · subst c'
      rw [ec] at hy
      have z : (0 : Int32).toBitVec.getLsbD y = false := by
        show (0#32).getLsbD y = false
        simp
      rw [z] at hy
      cases hy
    · rw [o (52 + x) (by omega) (by omega) (by omega) (by omega) (by omega)] at hy
      have := Qc.2 x y (by omega) hy
      rw [← hm'] at this
      rw [o (52 + y) (by omega) (by omega) (by omega) (by omega) (by omega)]
      exact ⟨⟨by omega, this.1.2⟩, this.2⟩
theorem hv_cous {σ : Nat → Int32} {a b : Int32} (I : hv_I σ) (ha : 0 ≤ a.toInt ∧ a.toInt ≤ (σ 2).toInt - 1) (hb : 0 ≤ b.toInt ∧ b.toInt ≤ (σ 2).toInt - 1) (ne : a ≠ b) : hv_I (hs_set (hs_set (hs_set σ (52 + a.toNatClampNeg) (σ (52 + a.toNatClampNeg) ||| hs_bit b)) (52 + b.toNatClampNeg) (σ (52 + b.toNatClampNeg) ||| hs_bit a)) 3 (σ 3 + 1)) := by
  obtain ⟨V, ⟨I4, I5⟩, Qc, Qd⟩ := I
  have nn := s_Vn V
  obtain ⟨x, hx⟩ : ∃ x : Nat, a.toInt = (x : Int) := ⟨a.toInt.toNat, by omega⟩
  obtain ⟨y, hy⟩ : ∃ y : Nat, b.toInt = (y : Int) := ⟨b.toInt.toNat, by omega⟩
  have nxy : x ≠ y := fun z => ne (Int32.toInt_inj.mp (by omega))
  rw [i_cl hx, i_cl hy]
  obtain ⟨τ, hτ⟩ : ∃ τ, τ = hs_set (hs_set (hs_set σ (52 + x) (σ (52 + x) ||| hs_bit b)) (52 + y) (σ (52 + y) ||| hs_bit a)) 3 (σ 3 + 1) := ⟨_, rfl⟩
  rw [← hτ]
  have ex : τ (52 + x) = σ (52 + x) ||| hs_bit b := by rw [hτ, hs_sn (by omega), hs_sn (by omega), hs_se]
  have ey : τ (52 + y) = σ (52 + y) ||| hs_bit a := by rw [hτ, hs_sn (by omega), hs_se]
  have o : ∀ j, j ≠ 3 → j ≠ 52 + x → j ≠ 52 + y → τ j = σ j := fun j h1 h2 h3 => by rw [hτ, hs_sn h1, hs_sn h3, hs_sn h2]
  have em : hs_m τ = hs_m σ := by unfold hs_m; rw [o 2 (by decide) (by omega) (by omega)]
  clear hτ
  refine ⟨s_V_of V (fun j hj => o j (by omega) (by omega) (by omega)), ⟨(o 4 (by decide) (by omega) (by omega)).trans I4, by rw [o 5 (by decide) (by omega) (by omega)]; exact I5⟩, ⟨by omega, fun p q hp hq => ?_⟩, s_Qd_c Qd (o 1 (by decide) (by omega) (by omega)) (fun t ht => o _ (by omega) (by omega) (by omega))⟩
  rw [em] at hp ⊢
  -- which cell says what
  have get : ∀ i j, (τ (52 + i)).toBitVec.getLsbD j = true ↔ (σ (52 + i)).toBitVec.getLsbD j = true ∨ (i = x ∧ j = y) ∨ (i = y ∧ j = x) := by
    intro i j
    by_cases c1 : i = x
    · subst c1
      rw [ex, or_get, bit_get hy (by omega), Bool.or_eq_true, decide_eq_true_iff]
      constructor
      · rintro (h | h)
        · exact Or.inl h
        · exact Or.inr (Or.inl ⟨rfl, h.symm⟩)
      · rintro (h | ⟨_, h⟩ | ⟨h, _⟩)
        · exact Or.inl h
        · exact Or.inr h.symm
        · exact absurd h nxy
    · by_cases c2 : i = y
      · subst c2
        rw [ey, or_get, bit_get hx (by omega), Bool.or_eq_true, decide_eq_true_iff]
        constructor
        · rintro (h | h)
          · exact Or.inl h
          · exact Or.inr (Or.inr ⟨rfl, h.symm⟩)
        · rintro (h | ⟨h, _⟩ | ⟨_, h⟩)
          · exact Or.inl h
          · exact absurd h.symm nxy
          · exact Or.inr h.symm
      · rw [o (52 + i) (by omega) (by omega) (by omega)]
        constructor
        · exact Or.inl
        · rintro (h | ⟨h, _⟩ | ⟨h, _⟩)
          · exact h
          · exact absurd h c1
          · exact absurd h c2
  rw [get] at hq
  rw [get]
  rcases hq with hq | ⟨h1, h2⟩ | ⟨h1, h2⟩
  · have := Qc.2 p q hp hq
    exact ⟨this.1, Or.inl this.2⟩
  · exact ⟨⟨by omega, by omega⟩, Or.inr (Or.inr ⟨h2, h1⟩)⟩
  · exact ⟨⟨by omega, by omega⟩, Or.inr (Or.inl ⟨h2, h1⟩)⟩
theorem hv_know {σ : Nat → Int32} {h t a s : Int32} (I : hv_I σ) (hh : 0 ≤ h.toInt ∧ h.toInt ≤ (σ 2).toInt - 1) (ht : 0 ≤ t.toInt ∧ t.toInt ≤ (σ 1).toInt - 1) (ha : 0 ≤ a.toInt ∧ a.toInt ≤ 9) (hs : 1 ≤ s.toInt ∧ s.toInt ≤ 99) : hv_I (hs_set (hs_set σ (59 + 14 * h.toNatClampNeg + 2 * t.toNatClampNeg) a) (60 + 14 * h.toNatClampNeg + 2 * t.toNatClampNeg) s) := by
  obtain ⟨V, ⟨I4, I5⟩, Qc, Qd⟩ := I
  have nn := s_Vn V
  obtain ⟨x, hx⟩ : ∃ x : Nat, h.toInt = (x : Int) := ⟨h.toInt.toNat, by omega⟩
  obtain ⟨y, hy⟩ : ∃ y : Nat, t.toInt = (y : Int) := ⟨t.toInt.toNat, by omega⟩
  rw [i_cl hx, i_cl hy]
  have e : hs_set (hs_set σ (59 + 14 * x + 2 * y) a) (60 + 14 * x + 2 * y) s = s_kw σ x y a s := by
    unfold s_kw
    rw [if_neg (fun z => by have := i_le z; have z0 : (0 : Int32).toInt = 0 := rfl; omega), if_neg (fun z => by have := i_le z; have z0 : (0 : Int32).toInt = 0 := rfl; omega)]
  rw [e]
  exact ⟨kw_V V (by omega) hs.2 (fun _ => ha), ⟨(kw_lo (by decide)).trans I4, by rw [kw_lo (by decide)]; exact I5⟩, s_Qc_c Qc (kw_lo (by decide)) (fun j _ hj => kw_lo hj), s_Qd_c Qd (kw_lo (by decide)) (fun t ht => kw_lo (by omega))⟩
theorem hs_cl_V {T : gM} {cl : Nat} {x y : hS} (h : hs_cl T cl x = .inr y) (I : hv_I x.2) : hv_I y.2 := by
  have nn := s_Vn I.1
  unfold hs_cl at h
  by_cases cw : hs_w (k_kind T x.1) = false
  · rw [if_pos cw] at h
    cases h
  rw [if_neg cw] at h
  by_cases cb : hs_bad x.2 (k_kind T x.1) cl = true
  · rw [if_pos cb] at h
    cases h
  rw [if_neg cb] at h
  have nb : ¬ (k_kind T x.1 = 262 ∧ 7 ≤ (x.2 1).toInt) ∧ ¬ (k_kind T x.1 = 261 ∧ 7 ≤ (x.2 2).toInt) := by
    unfold hs_bad hs_full at cb
    rw [Bool.or_eq_true, decide_eq_true_iff, decide_eq_true_iff] at cb
    omega
  unfold hs_body at h
  by_cases c1 : k_kind T x.1 = 261
  · rw [if_pos c1] at h
    obtain ⟨z1, e1, h⟩ := hs_b_inr h
    obtain ⟨z2, e2, h⟩ := hs_b_inr h
    obtain rfl := Sum.inr.inj h
    exact hv_heir (σ := x.2) I (by omega) (hs_num_r e1) (hs_num_r e2)
  rw [if_neg c1] at h
  by_cases c2 : k_kind T x.1 = 262
  · rw [if_pos c2] at h
    obtain ⟨z1, e1, h⟩ := hs_b_inr h
    obtain ⟨z2, e2, h⟩ := hs_b_inr h
    obtain ⟨z3, e3, h⟩ := hs_b_inr h
    obtain rfl := Sum.inr.inj h
    exact hv_thing (σ := x.2) I (by omega) (hs_num_r e1) (hs_num_r e2) (hs_num_r e3)
  rw [if_neg c2] at h
  by_cases c3 : k_kind T x.1 = 267
  · rw [if_pos c3] at h
    obtain ⟨z1, _, h⟩ := hs_b_inr h
    obtain rfl := Sum.inr.inj h
    dsimp only
    refine hv_lo (σ := x.2) I (fun j hj => hs_sn (by omega)) (hs_sn (show (4 : Nat) ≠ 6 by decide)) ?_
    rw [hs_sn (show (5 : Nat) ≠ 6 by decide)]
    exact I.2.1.2
  rw [if_neg c3] at h
  by_cases c4 : k_kind T x.1 = 268
  · rw [if_pos c4] at h
    obtain ⟨z1, _, h⟩ := hs_b_inr h
    obtain rfl := Sum.inr.inj h
    dsimp only
    refine hv_lo (σ := x.2) I (fun j hj => hs_sn (by omega)) (hs_sn (show (4 : Nat) ≠ 7 by decide)) ?_
    rw [hs_sn (show (5 : Nat) ≠ 7 by decide)]
    exact I.2.1.2
  rw [if_neg c4] at h
  by_cases c5 : k_kind T x.1 = 275
  · rw [if_pos c5] at h
    obtain ⟨z1, e1, h⟩ := hs_b_inr h
    obtain rfl := Sum.inr.inj h
    dsimp only
    refine hv_lo (σ := x.2) I (fun j hj => (hs_sn (by omega)).trans (hs_sn (by omega))) ((hs_sn (show (4 : Nat) ≠ 0 by decide)).trans (hs_sn (show (4 : Nat) ≠ 5 by decide))) ?_
    rw [hs_sn (show (5 : Nat) ≠ 0 by decide), hs_se]
    have := hs_num_r e1
    omega
  rw [if_neg c5] at h
  by_cases c6 : k_kind T x.1 = 276
  · rw [if_pos c6] at h
    obtain ⟨z1, e1, h⟩ := hs_b_inr h
    obtain ⟨z2, e2, h⟩ := hs_b_inr h
    dsimp only at h
    split at h
    · cases h
    · rename_i nc
      obtain rfl := Sum.inr.inj h
      exact hv_cous (σ := x.2) I (hs_num_r e1) (hs_num_r e2) (fun z => nc (Or.inl z))
  rw [if_neg c6] at h
  obtain ⟨z1, e1, h⟩ := hs_b_inr h
  obtain ⟨z2, e2, h⟩ := hs_b_inr h
  obtain ⟨z3, e3, h⟩ := hs_b_inr h
  obtain ⟨z4, e4, h⟩ := hs_b_inr h
  obtain rfl := Sum.inr.inj h
  exact hv_know (σ := x.2) I (hs_num_r e1) (hs_num_r e2) (hs_num_r e3) (hs_num_r e4)
theorem hs_tl_V {T : gM} : ∀ (n cl : Nat) {x y : hS}, hs_tl T n cl x = .inr y → 1 ≤ cl → hv_I x.2 → he_I x.2 cl → hv_I y.2 ∧ y.2 0 = 1 := by
  intro n
  induction n with
  | zero => intro cl x y h _ _ _; cases h
  | succ n ih =>
    intro cl x y h h1 I E
    have h : hs_nx T n cl (hs_cl T cl x) = .inr y := h
    cases hc : hs_cl T cl x with
    | inl e =>
      rw [hc] at h
      cases h
    | inr z =>
      rw [hc] at h
      have I' := hs_cl_V hc I
      obtain ⟨E', _⟩ := hs_cl_I hc h1 E
      unfold hs_nx at h
      dsimp only at h
      by_cases c1 : k_kind T z.1 = 256
      · rw [if_pos c1] at h
        obtain rfl := Sum.inr.inj h
        exact ⟨I', by rw [E'.2, if_neg (by omega)]⟩
      · rw [if_neg c1] at h
        by_cases c2 : k_kind T z.1 = 59
        · rw [if_pos c2] at h
          exact ih (cl + 1) h (by omega) I' E'
        · rw [if_neg c2] at h
          cases h
theorem hs_text_V {T : gM} {f : Nat → Int32} {y : hS} (h : hs_text T (hs_0 f) = .inr y) : hv_I y.2 ∧ y.2 0 = 1 := by
  have z : ∀ k, k < 10 → hs_0 f k = 0 := fun k hk => if_pos hk
  have z0 : (0 : Int32).toInt = 0 := rfl
  have m0 : hs_m (hs_0 f) = 0 := by
    unfold hs_m
    rw [z 2 (by decide)]
    rfl
  have V0 : s_V (hs_0 f) := by
    refine ⟨?_, ?_, ?_, ?_⟩
    · rw [z 1 (by decide), z 2 (by decide)]
      decide
    · intro h t hh ht
      rw [z 2 (by decide)] at hh
      omega
    · intro t ht
      rw [z 1 (by decide)] at ht
      omega
    · intro h hh
      rw [z 2 (by decide)] at hh
      omega
  have n0 : hs_n (hs_0 f) = 0 := by
    unfold hs_n
    rw [z 1 (by decide)]
    rfl
  have I0 : hv_I (hs_0 f) := ⟨V0, ⟨z 4 (by decide), by rw [z 5 (by decide)]; decide⟩, ⟨by omega, fun a b ha _ => by omega⟩, by omega, fun t ht => by omega⟩
  have E0 : he_I (hs_0 f) 1 := ⟨by rw [z 3 (by decide)]; decide, by rw [z 0 (by decide), if_pos rfl]⟩
  exact hs_tl_V 42 1 h (Nat.le_refl _) I0 E0
-- 7zad.told
/-! house() and rule() of both; the first memory -/
/-- the reference stands but for 'said' and how many can be undone -/
theorem w_E_r2 {S : Nat} {M M' : gM} {σ σ' : Nat → Int32} {sz sz' : Nat} {P I : Nat → Nat → Int32} {rc : Nat} {R : Nat → List (Nat × Int32) × List (Nat × Nat × Nat)} (E : w_E M σ sz P I rc R) (f : y_Fr S M M') (h : Nat.land S (2 ^ 2 + 2 ^ 42 + 2 ^ 44 + 2 ^ 45 + 2 ^ 52 + 2 ^ 58) = 0) (hs : M'.2.1 185 = σ') (hz : (M'.2.1 175 25).toInt = (sz' : Int)) (hle : sz' ≤ sz) : w_E M' σ' sz' P I rc R := by
  obtain ⟨⟨⟨a1, a2⟩, a3⟩, a4, a5, a6⟩ := E
  have e187 := fun q => y_fa (i := 187) f (by decide) (y_dis h (by decide)) q
  have e193 := fun q => y_fa (i := 193) f (by decide) (y_dis h (by decide)) q
  refine ⟨⟨⟨hs, hz⟩, fun i hi j hj => (e187 _).trans (a3 i (by omega) j hj)⟩, fun k hk j hj => (e193 _).trans (a4 k hk j hj), by rw [y_fk (i := 175) (k := 2) f (y_dis h (by decide))]; exact a5, fun t ht => ?_⟩
  have h3 := a6 t ht
  have e1 : M'.2.1 179 = M.2.1 179 := funext (fun q => y_fa (i := 179) f (by decide) (y_dis h (by decide)) q)
  have e2 : M'.2.1 180 = M.2.1 180 := funext (fun q => y_fa (i := 180) f (by decide) (y_dis h (by decide)) q)
  have e3 : y_sn M' t = y_sn M t := y_snf f (y_dis h (by decide)) t
  unfold r_rl at h3 ⊢
  rw [e1, e2, e3]
  exact h3
theorem lw9_house {L : Nat} {M : gM} (R : lw9 L M) : lw_42 L M (F_X11_house (some 2) M) (F_X12_house (some 175)) := by
  obtain ⟨w, M1, M2, ⟨e1, B1, s1⟩, e2, R2, s2⟩ := lw8_house R.1
  obtain ⟨R8, e0, σ, nx, sz, P, I, rc, Rr, C, E⟩ := R
  have G := R8.2
  have hl := lw8_len R8.1.1.1
  obtain ⟨r1, er1, z1⟩ := S_X11_house R8.1.1.1.1.1.1 R8.1.1.1.2.1.1.1
  have x1 := o_eq er1 e1
  subst x1
  obtain ⟨r2, er2, z2⟩ := S_X12_house B1.1.1.2
  have x2 := o_eq er2 e2
  subst x2
  have f2 := z2.2
  obtain ⟨⟨n1, n2⟩, n4⟩ := lw_n R8.1.1
  have B : z_B M := ⟨R8.1.1.2.2.2, n4⟩
  have rr := lw_rc (q_Fx_of (a := 151) z1.2.2)
  dsimp only at rr f2
  have len1 : M.1.length ≤ M1.1.length := z1.2.2.1.1
  obtain ⟨r3, er3, ⟨fk, fl, fr, f6, fi⟩, c3⟩ := C_houseX (T := M) (e := M.1.length) (σ := hs_0 (M.2.1 181)) ⟨⟨R8.1.1.1.2.2.1, B⟩, R8.1.1.2.1.1, n2⟩ rfl hl (G_k2 G) ⟨⟨G_r0 G, G_r1 G⟩, G_r5 G, G_r7 G⟩ (G_k19 G) (k_kd G (by decide)) (k_rf G (by decide)) (k_rf G (by decide)) (k_LS_of G (by decide)) (k_LS_of G (by decide)) (fun k hk => if_pos hk)
  have x3 := o_eq er3 e1
  subst x3
  obtain ⟨r4, er4, _, c4⟩ := E_houseX (T := M) (M := M1) B B1.1.1.2 (rr 176 (by decide)) (by unfold n_s; rw [rr 175 (by decide)])
  have x4 := o_eq er4 e2
  subst x4
  rw [rr 181 (by decide)] at c4
  dsimp only at fk fl fr f6 fi c3 c4
  have E1 := w_E_c E rr
  refine ⟨w, M1, M2, ⟨e1, B1, s1⟩, e2, ⟨R2, ?_⟩, s2⟩
  have hl1 := lw8_len B1
  cases hit : hs_text M (hs_0 (M.2.1 181)) with
  | inl er =>
    rw [hit] at c3 c4
    obtain ⟨_, c11, c9, c19⟩ := c3
    obtain ⟨_, d185, d25⟩ := c4
    have F : w_F (fun i => w_Nr i ∨ i = 136 ∨ (143 ≤ i ∧ i ≤ 147)) M M1 := by
      refine ⟨⟨len1, fun i hi => fk i hi⟩, fun i hi hN => ⟨funext (fun k => ?_), funext (fun k => ?_)⟩⟩
      · by_cases h9 : 9 ≤ i ∧ i ≤ 13
        · exact c9 i k h9.1 h9.2
        · by_cases h19 : i = 19 ∧ k = 2
          · rw [h19.1, h19.2]
            exact c19
          · exact fi i hi k (by unfold z_W; unfold w_Nr at hN; omega) (by omega) h9 h19
      · by_cases h2 : i = 2 ∧ k = 11
        · rw [h2.1, h2.2]
          exact c11
        · exact fr i hi k (by omega) h2
    have C1 := w_C_F C hl F (congrFun (F.2 2 (by omega) (by unfold w_Nr; omega)).2 11) (congrFun (F.2 2 (by omega) (by unfold w_Nr; omega)).1 12) (fun i z => by unfold w_Nr at z; omega)
    refine ⟨e0, σ, nx, sz, P, I, rc, Rr, w_C_r C1 hl1 f2, w_E_r2 E1 f2 (by decide) (by rw [funext d185]; exact E1.1.1.1) (by rw [d25]; exact E1.1.1.2) (Nat.le_refl _)⟩
  | inr y =>
    rw [hit] at c3 c4
    obtain ⟨⟨_, c11⟩, ⟨cLE, cE⟩, ⟨c5, cS⟩, c19⟩ := c3
    obtain ⟨⟨_, d185⟩, d25⟩ := c4
    obtain ⟨⟨V, ⟨v4, v5⟩, Qc, Qd⟩, y0⟩ := hs_text_V hit
    have F : w_F (fun i => w_Nr i ∨ i = 136 ∨ (143 ≤ i ∧ i ≤ 147) ∨ (9 ≤ i ∧ i ≤ 13) ∨ i = 19 ∨ i = 2) M M1 := by
      refine ⟨⟨len1, fun i hi => fk i hi⟩, fun i hi hN => ⟨funext (fun k => ?_), funext (fun k => ?_)⟩⟩
      · exact fi i hi k (by unfold z_W; unfold w_Nr at hN; omega) (by omega) (by omega) (by omega)
      · exact fr i hi k (by omega) (by omega)
    have R21 : k_G M1 := lw8_c R8.1.1.1 G z1.2.2
    have X1 : w_X M1 9 M.1.length y.2 := by
      refine ⟨⟨⟨⟨cLE, k_LS_of R21 (by decide)⟩, ⟨cE, cS⟩, V⟩, Or.inr (by omega)⟩, ?_, ?_⟩
      · rw [c5, y0, if_pos (by decide)]
      · unfold s_Q
        rw [v4]
        exact ⟨by decide, v5, Qc, Qd⟩
    have i12 : M1.2.1 2 12 = M.2.1 2 12 := fi 2 (by omega) 12 (by unfold z_W; omega) (by omega) (by omega) (by omega)
    have i191 : M1.2.1 19 1 = M.2.1 19 1 := fi 19 (by omega) 1 (by unfold z_W; omega) (by omega) (by omega) (by omega)
    have C1 : w_C M1 M.1.length y.2 nx 0 P I rc Rr := by
      refine ⟨⟨⟨c11, X1⟩, ⟨⟨by rw [i191]; exact C.1.2.1.1.1, by rw [c19]; rfl⟩, C.1.2.1.2.1, by omega⟩, fun i hi => absurd hi (Nat.not_lt_zero _)⟩, w_Ci_F C.2.1 hl F (fun i z => by unfold w_Nr at z; omega), w_Cr_F C.2.2 hl F i12 (fun i z => by unfold w_Nr at z; omega)⟩
    refine ⟨M.1.length, M2.2.1 185, nx, 0, P, I, rc, Rr, w_C_congr (w_C_r C1 hl1 f2) d185, w_E_r2 E1 f2 (by decide) rfl (by rw [d25]; rfl) (Nat.zero_le _)⟩
theorem k_rl_F {N : Nat → Prop} {M M' : gM} {j js jm : Nat} {o : List (Nat × Int32)} {ms : List (Nat × Nat × Nat)} (K : k_rl M j js jm o ms) (f : w_F N M M') (a : 196 < j ∧ 196 < js ∧ 196 < jm) (h1 : ∀ i, N i → i < 197) : k_rl M' j js jm o ms := by
  have lj : j < M.1.length := q_kl (by rw [K.1.1]; decide)
  have ljs : js < M.1.length := q_kl (by rw [K.2.1.1.1]; show 20 < 90; decide)
  have ljm : jm < M.1.length := q_kl (by rw [K.2.1.1.2]; show 20 < 90; decide)
  have no : ∀ i, 196 < i → ¬ N i := fun i hi z => by have := h1 _ z; omega
  unfold k_rl at K ⊢
  rw [f.1.2 j lj, f.1.2 js ljs, f.1.2 jm ljm, (f.2 j lj (no j a.1)).2, (f.2 js ljs (no js a.2.1)).1, (f.2 jm ljm (no jm a.2.2)).1]
  exact K
theorem lw9_rule {L : Nat} {M : gM} (R : lw9 L M) : lw_42 L M (F_X11_rule (some 2) M) (F_X12_rule (some 175)) := by
  obtain ⟨w, M1, M2, ⟨e1, B1, s1⟩, e2, R2, s2⟩ := lw8_rule R.1
  obtain ⟨R8, e0, σ, nx, sz, P, I, rc, Rr, C, E⟩ := R
  have G := R8.2
  have hl := lw8_len R8.1.1.1
  refine ⟨w, M1, M2, ⟨e1, B1, s1⟩, e2, ⟨R2, ?_⟩, s2⟩
  have rc1 : (M.2.1 2 12).toInt = (rc : Int) := C.2.2.1
  have H0 := R8.1.1.1.1.1.2
  have r6 : rc ≤ 6 := by
    have := (H0.2.1 175 (by decide) 2).2
    have q : (y_tI 175 2).2 = 6 := rfl
    have := E.2.2.1
    omega
  obtain ⟨r1, er1, z1⟩ := S_X11_rule R8.1.1.1.1.1.1 R8.1.1.1.2.1.1.1
  have x1 := o_eq er1 e1
  subst x1
  obtain ⟨r2, er2, z2⟩ := S_X12_rule B1.1.1.2 B1.1.2
  have x2 := o_eq er2 e2
  subst x2
  have f2 := z2.1.2
  have rr := lw_rc (q_Fx_of (a := 151) z1.2.2)
  dsimp only at rr f2
  have len1 : M.1.length ≤ M1.1.length := z1.2.2.1.1
  have hl1 := lw8_len B1
  have E1 := w_E_c E rr
  by_cases c6 : rc = 6
  · obtain ⟨r5, e5, er5⟩ := C_rule6 R8.1.1.1.1.1.1 R8.1.1.1.2.1.1.1 (by omega)
    subst er5
    have x5 := o_eq e5 e1
    cases x5
    have y5 := E_rule6 (M := M) H0 (by have := E.2.2.1; omega)
    have x6 := o_eq y5 e2
    cases x6
    exact ⟨e0, σ, nx, sz, P, I, rc, Rr, C, E⟩
  · obtain ⟨⟨n1, n2⟩, n4⟩ := lw_n R8.1.1
    have B : z_B M := ⟨R8.1.1.2.2.2, n4⟩
    obtain ⟨r3, er3, c3⟩ := C_ruleX (T := M) G hl ⟨⟨R8.1.1.1.2.2.1, B⟩, R8.1.1.2.1.1, n2⟩ rc1 (by omega)
    have x3 := o_eq er3 e1
    subst x3
    obtain ⟨r4, er4, ⟨g177, g179, g180⟩, c4⟩ := E_ruleM (T := M) (M := M1) B B1.1.1.2 (rr 176 (by decide)) (by unfold n_s; rw [rr 175 (by decide)]) E1.2.2.1 (by omega)
    have x4 := o_eq er4 e2
    subst x4
    dsimp only at c3 c4 g177 g179 g180
    -- the elder RULES of the reference
    have old : ∀ t, t < rc → r_rl M2 t (Rr t).1 (Rr t).2 := by
      intro t ht
      obtain ⟨⟨a1, a2⟩, ⟨a3, a4, a5⟩, a6⟩ := E1.2.2.2 t ht
      refine ⟨⟨by rw [g180 t (by omega)]; exact a1, r_K_c (fun q h1 h2 => g179 q (by omega)) a2⟩, ⟨m_L_f a3 (fun j _ hj => g177 _ (by omega)), a4, a5⟩, a6⟩
    have e187 := fun q => y_fa (i := 187) f2 (by decide) (by decide) q
    have e193 := fun q => y_fa (i := 193) f2 (by decide) (by decide) q
    have e185 : M2.2.1 185 = σ := (funext (fun q => y_fa (i := 185) f2 (by decide) (by decide) q)).trans E1.1.1.1
    have e25 : (M2.2.1 175 25).toInt = (sz : Int) := by rw [y_fk (i := 175) (k := 25) f2 (by decide)]; exact E1.1.1.2
    have P2 : ∀ i, i < sz → ∀ j, j < 157 → M2.2.1 187 (157 * i + j) = P i j := fun i hi j hj => (e187 _).trans (E1.1.2 i hi j hj)
    have I2 : ∀ k, k < 4 → ∀ j, j < 157 → M2.2.1 193 (157 * k + j) = I k j := fun k hk j hj => (e193 _).trans (E1.2.1 k hk j hj)
    have same2 : M2.2.1 2 12 = M2.2.1 175 2 := R2.1.1.2.2.1
    have m12 : M2.2.1 2 12 = M1.2.1 2 12 := by rw [(f2.2.2 2 (by decide)).1]
    cases hit : s_text M with
    | inl er =>
      rw [hit] at c3
      have i12 : M1.2.1 2 12 = M.2.1 2 12 := congrFun (w_FN c3 hl (by unfold w_Nr; omega)).1 12
      have C1 := w_C_F C hl c3 (congrFun (w_FN c3 hl (by unfold w_Nr; omega)).2 11) i12 (fun i z => by unfold w_Nr at z; omega)
      refine ⟨e0, σ, nx, sz, P, I, rc, Rr, w_C_r C1 hl1 f2, ⟨⟨e185, e25⟩, P2⟩, I2, ?_, old⟩
      rw [← same2, m12, i12]
      exact rc1
    | inr yms =>
      obtain ⟨y, ms⟩ := yms
      rw [hit] at c3 c4
      obtain ⟨⟨Ma, Fa, Fb, la⟩, ⟨c11, c12⟩, c3t, j, js, jm, c3n, a, K⟩ := c3
      obtain ⟨⟨o1, o2⟩, o3⟩ := c4
      obtain ⟨RR, ms1, ms12⟩ := m_text hit
      have F : w_F (fun i => w_Nr i ∨ i = 2 ∨ i = 3) M M1 := w_F_t (w_F_w Fa (fun i h => Or.inl h)) (w_F_w Fb (fun i h => Or.inr h))
      have wh := C.1.1.2.1.2
      obtain ⟨Rn, hRn⟩ : ∃ Rn : Nat → List (Nat × Int32) × List (Nat × Nat × Nat), Rn = fun t => if t = rc then (y.2.2, ms) else Rr t := ⟨_, rfl⟩
      have Rne : Rn rc = (y.2.2, ms) := by rw [hRn]; exact if_pos rfl
      have Rno : ∀ t, t ≠ rc → Rn t = Rr t := fun t ht => by rw [hRn]; exact if_neg ht
      have C1 : w_C M1 e0 σ nx sz P I (rc + 1) Rn := by
        refine ⟨⟨⟨by rw [c11]; exact C.1.1.1, w_X_F C.1.1.2 F (fun j a b z => by unfold w_Nr at z; omega) (fun j a b z => by unfold w_Nr at z; unfold w_h at wh; omega)⟩, w_Cp_F C.1.2 hl wh F (fun i z => by unfold w_Nr at z; omega)⟩, w_Ci_F C.2.1 hl F (fun i z => by unfold w_Nr at z; omega), c12, fun t ht => ?_⟩
        by_cases ct : t = rc
        · subst ct
          rw [Rne]
          exact ⟨j, js, jm, c3n, a, K⟩
        · rw [Rno t ct, c3t t ct]
          obtain ⟨j', js', jm', q1, q2, q3⟩ := C.2.2.2 t (by omega)
          exact ⟨j', js', jm', q1, q2, k_rl_F q3 F q2 (fun i z => by unfold w_Nr at z; omega)⟩
      refine ⟨e0, σ, nx, sz, P, I, rc + 1, Rn, w_C_r C1 hl1 f2, ⟨⟨e185, e25⟩, P2⟩, I2, ?_, fun t ht => ?_⟩
      · rw [← same2, m12]
        exact c12
      · by_cases ct : t = rc
        · subst ct
          rw [Rne]
          have K2 := K.2.2.1.2.1
          exact ⟨⟨o3, o2⟩, ⟨m_r_O o1, K2, ms12⟩, RR⟩
        · rw [Rno t ct]
          exact old t (by omega)
def f_y9 : Bool := ((IC_509 19 1 == 0 && IC_509 19 2 == 0) && (IC_509 2 12 == 0 && (IC_509 175 2 == 0 && IC_509 175 25 == 0))) && ((List.range 6).all (fun k => IC_509 125 (5 + k) == 0) && ((List.range 3).all (fun k => IC_509 9 (4 + k) == 0) && (List.range 4).all (fun k => RC_510 (151 + 6 * k) 0 == some (152 + 6 * k) && RC_510 (151 + 6 * k) 1 == none))) && ((RC_510 2 11 == some 125 && f_K 125 == (1, 0)) && (List.range 5).all (fun k => f_K (126 + k) == (20, 7) && RC_510 125 k == some (126 + k)))
set_option maxRecDepth 100000 in
theorem f_y9_ok : f_y9 = true := by decide +kernel
theorem lw9_first (L : Nat) (xs : Nat → Int32) : lw9 L (g_Mc L xs) := by
  have h := f_y9_ok
  unfold f_y9 at h
  simp only [Bool.and_eq_true, beq_iff_eq] at h
  obtain ⟨⟨⟨⟨h1, h2⟩, h3, h4, h5⟩, h6, h7, h8⟩, ⟨h9, h10⟩, h11⟩ := h
  have i : ∀ {a b : Nat}, a ≠ 0 → (g_Mc L xs).2.1 a b = IC_509 a b := fun h => congrFun (II_510 L xs _ h) _
  have r : ∀ {a b : Nat}, (g_Mc L xs).2.2.2 a b = RC_510 a b := fun {a b} => congrFun (congrFun (RR_510 L xs) a) b
  have R8 := lw8_first L xs
  have G := R8.2
  have z185 : ∀ k, (g_Mc L xs).2.1 185 k = 0 := f_z0 (i := 185) (by decide) (by decide)
  have z0 : (0 : Int32).toInt = 0 := rfl
  have i125 : ∀ k, 5 ≤ k → k < 11 → (g_Mc L xs).2.1 125 k = 0 := fun k a b => by
    have := List.all_eq_true.mp h6 (k - 5) (List.mem_range.mpr (by omega))
    rw [beq_iff_eq] at this
    rw [i (by decide), show k = 5 + (k - 5) by omega]
    exact this
  have i9 : ∀ k, 4 ≤ k → k < 7 → (g_Mc L xs).2.1 9 k = 0 := fun k a b => by
    have := List.all_eq_true.mp h7 (k - 4) (List.mem_range.mpr (by omega))
    rw [beq_iff_eq] at this
    rw [i (by decide), show k = 4 + (k - 4) by omega]
    exact this
  have m0 : hs_m ((g_Mc L xs).2.1 185) = 0 := by
    unfold hs_m
    rw [z185 2]
    rfl
  refine ⟨R8, 125, (g_Mc L xs).2.1 185, 0, 0, fun _ _ => 0, fun k j => (g_Mc L xs).2.1 193 (157 * k + j), 0, fun _ => ([], []), ⟨⟨⟨by rw [r]; exact h9, ⟨⟨⟨⟨?_, ?_⟩, k_LS_of G (by decide)⟩, ⟨?_, ?_⟩, ?_⟩, Or.inl rfl⟩, ?_, ?_⟩, ⟨⟨by rw [i (by decide), h1]; rfl, by rw [i (by decide), h2]; rfl⟩, by decide, by decide⟩, fun k hk => absurd hk (Nat.not_lt_zero _)⟩, fun k hk => ?_, by rw [i (by decide), h3]; rfl, fun t ht => absurd ht (Nat.not_lt_zero _)⟩, ⟨⟨rfl, by rw [i (by decide), h5]; rfl⟩, fun k hk => absurd hk (Nat.not_lt_zero _)⟩, fun k _ j _ => rfl, by rw [i (by decide), h4]; rfl, fun t ht => absurd ht (Nat.not_lt_zero _)⟩
  · exact (G.1 125 (by decide) (by decide)).trans h10
  · intro k hk
    have := List.all_eq_true.mp h11 k (List.mem_range.mpr hk)
    simp only [Bool.and_eq_true, beq_iff_eq] at this
    rw [show 125 + 1 + k = 126 + k by omega]
    exact ⟨(G.1 (126 + k) (by omega) (by omega)).trans this.1, by rw [r]; exact this.2⟩
  · refine ⟨⟨⟨?_, ?_⟩, ?_⟩, ⟨?_, ?_⟩, fun t ht => ?_, fun t ht => ?_⟩
    · rw [i125 6 (by decide) (by decide), z185]
    · rw [i125 7 (by decide) (by decide), z185]
    · rw [i125 8 (by decide) (by decide), z185]
    · rw [i125 9 (by decide) (by decide), z185]
    · rw [i125 10 (by decide) (by decide), z185]
    · rw [z185] at ht
      omega
    · rw [z185] at ht
      omega
  · refine ⟨⟨⟨?_, ?_⟩, ?_⟩, fun t ht => ?_, fun t ht => ?_⟩
    · rw [i9 4 (by decide) (by decide), z185]
    · rw [i9 5 (by decide) (by decide), z185]
    · rw [i9 6 (by decide) (by decide), z185]
    · rw [z185] at ht
      omega
    · rw [z185] at ht
      omega
  · refine ⟨by rw [z185, z185]; decide, fun a t ha _ => ?_, fun t ht => ?_, fun a ha => ?_⟩
    · rw [z185] at ha
      omega
    · rw [z185] at ht
      omega
    · rw [z185] at ha
      omega
  · rw [i125 5 (by decide) (by decide), z185]
    rfl
  · have n0 : hs_n ((g_Mc L xs).2.1 185) = 0 := by
      unfold hs_n
      rw [z185 1]
      rfl
    refine ⟨by rw [z185]; decide, by rw [z185]; decide, ⟨by omega, fun a b ha _ => by omega⟩, by omega, fun t ht => by omega⟩
  · have := List.all_eq_true.mp h8 k (List.mem_range.mpr hk)
    simp only [Bool.and_eq_true, beq_iff_eq] at this
    rw [r, r, this.1, this.2]
    exact ⟨rfl, fun e he => by cases he⟩
-- 7zae.pure
/-! what stands: heir, thing, knows, count of both -/
theorem E_in {l : Int32} {lo hi : Int64} {a b : Int} {M : gM} (h1 : lo.toInt = a) (h2 : hi.toInt = b) : F_X12_in (l).toInt64 lo hi M = some (if a ≤ l.toInt ∧ l.toInt ≤ b then 1 else 0) := by
  have e : (l).toInt64.toInt = l.toInt := Int32.toInt_toInt64 l
  delta F_X12_in F_X12_in_b0 F_X12_in_b17
  rcases lg_r (l).toInt64 lo with ⟨p, q⟩ | ⟨p, q⟩ | ⟨p, q⟩ <;> rcases lg_r (l).toInt64 hi with ⟨r, s⟩ | ⟨r, s⟩ | ⟨r, s⟩ <;> rw [p, r] <;> (by_cases c : a ≤ l.toInt ∧ l.toInt ≤ b) <;> first | (rw [if_neg c]; first | (exfalso; omega) | rfl) | (rw [if_pos c]; first | (exfalso; omega) | rfl)
/-- how many -/
def c_n (f : Nat → Bool) : Nat → Nat
  | 0 => 0
  | k + 1 => c_n f k + (if f k = true then 1 else 0)
theorem c_n_le {f : Nat → Bool} : ∀ k, c_n f k ≤ k := by
  intro k
  induction k with
  | zero => exact Nat.le_refl _
  | succ k ih =>
    show c_n f k + (if f k = true then 1 else 0) ≤ k + 1
    split <;> omega
theorem c_n_cn {f : Nat → Bool} : ∀ k, k ≤ 10 → s_cn f k = Int32.ofNat (c_n f k) := by
  intro k
  induction k with
  | zero => intro _; rfl
  | succ k ih =>
    intro hk
    have h := ih (by omega)
    have l := c_n_le (f := f) k
    rw [cn_succ]
    show _ = Int32.ofNat (c_n f k + (if f k = true then 1 else 0))
    by_cases c : f k = true
    · rw [if_pos c, if_pos c, h]
      exact i_n1 _ (by omega)
    · rw [if_neg c, if_neg c, h]
      rfl
def c_s (g : Nat → Nat) : Nat → Nat
  | 0 => 0
  | k + 1 => c_s g k + g k
theorem c_s_le {g : Nat → Nat} {b : Nat} (h : ∀ k, g k ≤ b) : ∀ k, c_s g k ≤ b * k := by
  intro k
  induction k with
  | zero => exact Nat.le_refl _
  | succ k ih =>
    show c_s g k + g k ≤ b * (k + 1)
    have := h k
    have e : b * (k + 1) = b * k + b := Nat.mul_succ b k
    omega
theorem c_s_congr {g g' : Nat → Nat} : ∀ k, (∀ i, i < k → g i = g' i) → c_s g k = c_s g' k := by
  intro k
  induction k with
  | zero => intro _; rfl
  | succ k ih =>
    intro h
    show c_s g k + g k = c_s g' k + g' k
    rw [ih (fun i hi => h i (by omega)), h k (by omega)]
theorem c_s_add {g g' : Nat → Nat} : ∀ k, c_s (fun i => g i + g' i) k = c_s g k + c_s g' k := by
  intro k
  induction k with
  | zero => rfl
  | succ k ih =>
    show c_s (fun i => g i + g' i) k + (g k + g' k) = c_s g k + g k + (c_s g' k + g' k)
    rw [ih]
    omega
theorem c_s_0 : ∀ k, c_s (fun _ => 0) k = 0 := by
  intro k
  induction k with
  | zero => rfl
  | succ k ih =>
    show c_s (fun _ => 0) k + 0 = 0
    rw [ih]
/-- counted by rows or by columns -/
theorem c_sw {p : Nat → Nat → Bool} {n : Nat} : ∀ m, c_s (fun h => c_n (fun t => p h t) n) m = c_s (fun t => c_n (fun h => p h t) m) n := by
  intro m
  induction m with
  | zero =>
    show 0 = c_s (fun t => 0) n
    rw [c_s_0]
  | succ m ih =>
    show c_s (fun h => c_n (fun t => p h t) n) m + c_n (fun t => p m t) n = c_s (fun t => c_n (fun h => p h t) m + (if p m t = true then 1 else 0)) n
    rw [c_s_add, ih]
    have : ∀ k, c_n (fun t => p m t) k = c_s (fun t => if p m t = true then 1 else 0) k := by
      intro k
      induction k with
      | zero => rfl
      | succ k ih2 =>
        show c_n (fun t => p m t) k + (if p m k = true then 1 else 0) = c_s (fun t => if p m t = true then 1 else 0) k + (if p m k = true then 1 else 0)
        rw [ih2]
    rw [this n]
/-- what all HEIRS HOLD, together -/
def s_al (σ : Nat → Int32) : Nat := c_s (fun h => c_n (fun t => s_ho σ h t) (hs_n σ)) (hs_m σ)
theorem s_al_le {σ : Nat → Int32} (V : s_V σ) : s_al σ ≤ 49 := by
  have nn := s_Vn V
  have h1 := c_s_le (g := fun h => c_n (fun t => s_ho σ h t) (hs_n σ)) (b := 7) (fun k => Nat.le_trans (c_n_le _) nn.1.2) (hs_m σ)
  unfold s_al
  omega
theorem C_heldTogether {M : gM} {s e : Nat} {σ : Nat → Int32} (X : k_X M s e σ) : F_X8_heldTogether (some s) (some e) M = some (Int32.ofNat (s_al σ)) := by
  have nn := s_Vn X.2.2
  obtain ⟨⟨ke, ⟨e6, e7⟩, _⟩, ⟨⟨ks, _⟩, _⟩, _⟩ := k_XE X
  have main : ∀ (n j : Nat) {l3 : Int32}, l3.toInt = (j : Int) → j ≤ hs_n σ → hs_n σ - j < n → F_X8_heldTogether_L4 M n (some s) (some e) (Int32.ofNat (c_s (fun t => c_n (fun h => s_ho σ h t) (hs_m σ)) j)) l3 = some (Int32.ofNat (c_s (fun t => c_n (fun h => s_ho σ h t) (hs_m σ)) (hs_n σ))) := by
    intro n
    induction n with
    | zero => intro j l3 h3 hj hn; omega
    | succ n ih =>
      intro j l3 h3 hj hn
      show F_X8_heldTogether_b4 (F_X8_heldTogether_L4 M n) M (some s) (some e) _ l3 = _
      delta F_X8_heldTogether_b4
      rw [t_gI ke, Option.bind_some, e6]
      have c0 := i_le_n h3 nn.1.1
      by_cases c : hs_n σ ≤ j
      · have : j = hs_n σ := by omega
        subst this
        rw [if_pos (c0.mpr c)]
      · have b0 := c_s_le (g := fun t => c_n (fun h => s_ho σ h t) (hs_m σ)) (b := 7) (fun k => Nat.le_trans (c_n_le _) nn.2.2) j
        have b1 := c_n_le (f := fun h => s_ho σ h j) (hs_m σ)
        rw [if_neg (mt c0.mp c), t_gO ks, Option.bind_some, C_holdersOf X h3 (by omega), Option.bind_some]
        unfold s_hs
        rw [C_bitCount (by omega), Option.bind_some, c_n_cn _ (by omega)]
        have o1 : (Int32.ofNat (c_s (fun t => c_n (fun h => s_ho σ h t) (hs_m σ)) j)).toInt = _ := i_ofNat (by omega)
        have o2 : (Int32.ofNat (c_n (fun h => s_ho σ h j) (hs_m σ))).toInt = _ := i_ofNat (by omega)
        have e : Int32.ofNat (c_s (fun t => c_n (fun h => s_ho σ h t) (hs_m σ)) j) + Int32.ofNat (c_n (fun h => s_ho σ h j) (hs_m σ)) = Int32.ofNat (c_s (fun t => c_n (fun h => s_ho σ h t) (hs_m σ)) (j + 1)) := by
          refine Int32.toInt_inj.mp ?_
          show _ = (Int32.ofNat (c_s (fun t => c_n (fun h => s_ho σ h t) (hs_m σ)) j + c_n (fun h => s_ho σ h j) (hs_m σ))).toInt
          rw [i_add (by omega) (by omega), i_ofNat (n := c_s (fun t => c_n (fun h => s_ho σ h t) (hs_m σ)) j + c_n (fun h => s_ho σ h j) (hs_m σ)) (by omega)]
          omega
        rw [e]
        exact ih (j + 1) (i_nx h3 (by omega)) (by omega) (by omega)
  delta F_X8_heldTogether F_X8_heldTogether_b0
  unfold s_al
  rw [c_sw]
  exact main g_fuel 0 (l3 := 0) rfl (Nat.zero_le _) (n_fu (by omega))
def s_bt : Nat → Int32 → Int32 → Option Int32
  | 0, _, _ => none
  | k + 1, a, b => if b = 0 then some a else s_bt k (a + 1) (b &&& (b - (1 : Int32)))
theorem bt_bits {M : gM} : ∀ (k : Nat) {a b c : Int32}, s_bt k a b = some c → ∀ n, F_X12_bits_L4 M (n + k) a b = some c := by
  intro k
  induction k with
  | zero => intro a b c h; cases h
  | succ k ih =>
    intro a b c h n
    show F_X12_bits_b4 (F_X12_bits_L4 M (n + k)) M a b = some c
    delta F_X12_bits_b4
    unfold s_bt at h
    by_cases d : b = 0
    · rw [if_pos d] at h
      rw [if_pos d]
      exact h
    · rw [if_neg d] at h
      rw [if_neg d]
      exact ih h n
theorem bt_7 : ∀ b0 b1 b2 b3 b4 b5 b6 : Bool, s_bt 8 0 (s_bs (s_l7 b0 b1 b2 b3 b4 b5 b6) 7) = some (s_cn (s_l7 b0 b1 b2 b3 b4 b5 b6) 7) := by decide +kernel
theorem E_bits {f : Nat → Bool} {k : Nat} {M : gM} (h : k ≤ 7) : F_X12_bits (s_bs f k) M = some (s_cn f k) := by
  have e1 : s_bs f k = s_bs (s_l7 (decide (0 < k) && f 0) (decide (1 < k) && f 1) (decide (2 < k) && f 2) (decide (3 < k) && f 3) (decide (4 < k) && f 4) (decide (5 < k) && f 5) (decide (6 < k) && f 6)) 7 := (bs_7 h).trans (bs_congr (fun i hi => l7_of (f := fun i => decide (i < k) && f i) hi))
  have e2 : s_cn (s_l7 (decide (0 < k) && f 0) (decide (1 < k) && f 1) (decide (2 < k) && f 2) (decide (3 < k) && f 3) (decide (4 < k) && f 4) (decide (5 < k) && f 5) (decide (6 < k) && f 6)) 7 = s_cn f k := (cn_congr (fun i hi => (l7_of (f := fun i => decide (i < k) && f i) hi).symm)).trans (cn_7 7 k h)
  delta F_X12_bits F_X12_bits_b0
  rw [e1, ← e2]
  have hf : g_fuel = (g_fuel - 8) + 8 := by unfold g_fuel; rfl
  rw [hf]
  exact bt_bits 8 (bt_7 _ _ _ _ _ _ _) _
theorem E_allHolds {M : gM} {σ : Nat → Int32} (X : e_V M σ) : F_X12_allHolds (some 175) M = some (Int32.ofNat (s_al σ)) := by
  have nn := s_Vn X.2.2
  have main : ∀ (n j : Nat) {l2 : Int32}, l2.toInt = (j : Int) → j ≤ hs_m σ → hs_m σ - j < n → F_X12_allHolds_L4 M n (some 175) (Int32.ofNat (c_s (fun h => c_n (fun t => s_ho σ h t) (hs_n σ)) j)) l2 = some (Int32.ofNat (s_al σ)) := by
    intro n
    induction n with
    | zero => intro j l2 h2 hj hn; omega
    | succ n ih =>
      intro j l2 h2 hj hn
      show F_X12_allHolds_b4 (F_X12_allHolds_L4 M n) M (some 175) _ l2 = _
      delta F_X12_allHolds_b4
      rw [e_sd X (k := 2) rfl (by decide)]
      have c0 := i_le_n h2 nn.2.1
      by_cases c : hs_m σ ≤ j
      · have : j = hs_m σ := by omega
        subst this
        rw [if_pos (c0.mpr c)]
        rfl
      · have b0 := c_s_le (g := fun h => c_n (fun t => s_ho σ h t) (hs_n σ)) (b := 7) (fun k => Nat.le_trans (c_n_le _) nn.1.2) j
        have b1 := c_n_le (f := fun t => s_ho σ j t) (hs_n σ)
        rw [if_neg (mt c0.mp c), e_gO X.1, Option.bind_some, E_holdsOf X h2 (by omega), Option.bind_some]
        unfold s_hb
        rw [E_bits (by omega), Option.bind_some, c_n_cn _ (by omega)]
        have o1 : (Int32.ofNat (c_s (fun h => c_n (fun t => s_ho σ h t) (hs_n σ)) j)).toInt = _ := i_ofNat (by omega)
        have o2 : (Int32.ofNat (c_n (fun t => s_ho σ j t) (hs_n σ))).toInt = _ := i_ofNat (by omega)
        have e : Int32.ofNat (c_s (fun h => c_n (fun t => s_ho σ h t) (hs_n σ)) j) + Int32.ofNat (c_n (fun t => s_ho σ j t) (hs_n σ)) = Int32.ofNat (c_s (fun h => c_n (fun t => s_ho σ h t) (hs_n σ)) (j + 1)) := by
          refine Int32.toInt_inj.mp ?_
          show _ = (Int32.ofNat (c_s (fun h => c_n (fun t => s_ho σ h t) (hs_n σ)) j + c_n (fun t => s_ho σ j t) (hs_n σ))).toInt
          rw [i_add (by omega) (by omega), i_ofNat (n := c_s (fun h => c_n (fun t => s_ho σ h t) (hs_n σ)) j + c_n (fun t => s_ho σ j t) (hs_n σ)) (by omega)]
          omega
        rw [e]
        exact ih (j + 1) (i_nx h2 (by omega)) (by omega) (by omega)
  delta F_X12_allHolds F_X12_allHolds_b0
  exact main g_fuel 0 (l2 := 0) rfl (Nat.zero_le _) (n_fu (by omega))
theorem E_knownBy {M : gM} {σ : Nat → Int32} {l1 : Int32} {h : Nat} (X : e_V M σ) (h1 : l1.toInt = (h : Int)) (hh : h < 7) : F_X12_heir_L89 M g_fuel (some 175) l1 (0 : Int32) (0 : Int32) = some (s_bs (fun t => s_kn σ h t) (hs_n σ)) := by
  have nn := s_Vn X.2.2
  have main : ∀ (n j : Nat) {l4 : Int32}, l4.toInt = (j : Int) → j ≤ hs_n σ → hs_n σ - j < n → F_X12_heir_L89 M n (some 175) l1 (s_bs (fun t => s_kn σ h t) j) l4 = some (s_bs (fun t => s_kn σ h t) (hs_n σ)) := by
    intro n
    induction n with
    | zero => intro j l4 h4 hj hn; omega
    | succ n ih =>
      intro j l4 h4 hj hn
      show F_X12_heir_b89 (F_X12_heir_L89 M n) M (some 175) l1 _ l4 = _
      delta F_X12_heir_b89 F_X12_heir_b119
      rw [e_sd X (k := 1) rfl (by decide)]
      have c0 := i_le_n h4 nn.1.1
      by_cases c : hs_n σ ≤ j
      · have : j = hs_n σ := by omega
        subst this
        rw [if_pos (c0.mpr c)]
      · rw [if_neg (mt c0.mp c), e_gO X.1, Option.bind_some, E_knowsOf X h1 h4 hh (by omega), Option.bind_some]
        have ih := ih (j + 1) (i_nx h4 (by omega)) (by omega) (by omega)
        rw [bs_next h4 (by omega)] at ih
        by_cases k : s_kn σ h j = true
        · rw [if_pos k, if_neg (by decide)]
          rw [if_pos k] at ih
          exact ih
        · rw [if_neg k, if_pos rfl]
          rw [if_neg k] at ih
          exact ih
  exact main g_fuel 0 (l4 := 0) rfl (Nat.zero_le _) (n_fu (by omega))
/-- questions that only look -/
theorem lw9_look {L : Nat} {M : gM} {o1 o2 : Option Int32} (R : lw9 L M) (c : ∀ (e : Nat) (σ : Nat → Int32), M.2.2.2 2 11 = some e → w_X M 9 e σ → e_V M σ → ∃ w, o1 = some w ∧ o2 = some w) : ∃ w, o1 = some w ∧ o2 = some w := by
  obtain ⟨R8, e, σ, nx, sz, P, I, rc, Rr, C, E⟩ := R
  exact c e σ C.1.1.1 C.1.1.2 ⟨R8.1.1.1.1.1.2, E.1.1.1, C.1.1.2.1.1.2.2⟩
theorem lw9_heir {L : Nat} {M : gM} {l1 l2 : Int32} (R : lw9 L M) : ∃ w, F_X11_heir (some 2) l1 l2 M = some w ∧ F_X12_heir (some 175) l1 l2 M = some w := by
  have G := R.1.2
  have k2 := G_k2 G
  refine lw9_look R (fun e σ r11 X Y => ?_)
  have V := Y.2.2
  obtain ⟨⟨ke, ⟨e6, e7⟩, e9, e10⟩, ⟨⟨ks, _⟩, k3, k4⟩, ⟨r0, r1⟩, r2, r3⟩ := k_XE X.1.1
  by_cases kH : s_iH σ l1 = true
  · obtain ⟨a, a1, a2, a3, _⟩ := s_iH_n V kH
    have nn := s_Vn V
    have R3 : g_k M (e + 4) = (20, 7) ∧ M.2.2.2 e 3 = some (e + 4) := k_XR (i := 3) X.1.1 (by decide)
    have R4 : g_k M (e + 5) = (20, 7) ∧ M.2.2.2 e 4 = some (e + 5) := k_XR (i := 4) X.1.1 (by decide)
    have E4 := X.1.1.2.1.1.2.2.2 a (by omega)
    have ag : M.2.1 (9 + 3) a = σ (38 + 2 * a) := (X.1.1.2.1.2.2.1 a (by omega)).1
    have i38 := i_mulL (c := (2 : Int32)) (x := l1) (n := 2) rfl (by omega) (by omega)
    have j38 := i_cadd (c := (38 : Int32)) (x := (2 : Int32) * l1) (n := 38) rfl (by omega) (by omega)
    have i52 := i_cadd (c := (52 : Int32)) (x := l1) (n := 52) rfl (by omega) (by omega)
    have c1 : ∀ {w : Int32}, (if l2 = (0 : Int32) then ((gR 11 M (some 2) 5).bind fun v3 => (gR 8 M v3 2).bind fun v4 => (aI 20 M v4 l1).bind fun v5 => some v5) else if l2 = (1 : Int32) then ((gR 11 M (some 2) 11).bind fun v6 => (gR 1 M v6 3).bind fun v7 => (aI 20 M v7 l1).bind fun v8 => some v8) else if l2 = (2 : Int32) then ((gR 11 M (some 2) 11).bind fun v9 => (gI 1 M v9 10).bind fun v10 => (F_X11_bit v10 l1 M).bind fun v11 => some v11) else if l2 = (3 : Int32) then ((gR 11 M (some 2) 11).bind fun v12 => (gR 1 M v12 4).bind fun v13 => (aI 20 M v13 l1).bind fun v14 => some v14) else if l2 = (4 : Int32) then ((gR 11 M (some 2) 5).bind fun v15 => (gR 11 M (some 2) 11).bind fun v16 => (gO 8 M v15).bind fun i17 => (F_X8_knownBy (some i17) v16 l1 M).bind fun v18 => some v18) else if l2 = (5 : Int32) then ((gR 11 M (some 2) 5).bind fun v19 => (gR 11 M (some 2) 11).bind fun v20 => (gO 8 M v19).bind fun i21 => (F_X8_heldBy (some i21) v20 l1 M).bind fun v22 => some v22) else (some (-1 : Int32))) = some w → F_X11_heir (some 2) l1 l2 M = some w := fun h => by
      delta F_X11_heir F_X11_heir_b0
      rw [t_gO k2, Option.bind_some, C_isHeirX k2 r11 X.1.1, Option.bind_some, if_pos kH, if_neg (by decide)]
      exact h
    have d1 : ∀ {w : Int32}, (if 0 ≤ l2.toInt ∧ l2.toInt ≤ 5 then (if (2 : Int32) ≤ l2 then (if l2 = (2 : Int32) then (some (hs_is (σ 6) l1)) else (if l2 = (3 : Int32) then (some (σ (52 + a))) else (if l2 = (5 : Int32) then (some (s_hb σ a)) else (some (s_bs (fun t => s_kn σ a t) (hs_n σ)))))) else ((gR 12 M (some 175) 20).bind fun v9 => (aI 20 M v9 (((38 : Int32) + ((2 : Int32) * l1)) + l2)).bind fun v10 => some v10)) else some (-1)) = some w → F_X12_heir (some 175) l1 l2 M = some w := fun h => by
      delta F_X12_heir F_X12_heir_b0 F_X12_heir_b20
      rw [e_gO Y.1, Option.bind_some, E_isHeirX Y, Option.bind_some, if_pos kH, if_neg (by decide), E_in (a := 0) (b := 5) rfl rfl, Option.bind_some]
      by_cases c : 0 ≤ l2.toInt ∧ l2.toInt ≤ 5
      · rw [if_pos c] at h
        rw [if_pos c, if_neg (by decide), e_sd Y (k := 6) rfl (by decide), e_sd Y (k := 52 + a) (by omega) (by omega), E_holdsOf Y a1 (by omega), Option.bind_some, E_knownBy Y a1 (by omega)]
        exact h
      · rw [if_neg c] at h
        rw [if_neg c, if_pos rfl]
        exact h
    by_cases b0 : l2 = 0
    · subst b0
      refine ⟨σ (38 + 2 * a), c1 ?_, d1 ?_⟩
      · rw [if_pos rfl, t_gR k2 (G_r5 G), Option.bind_some, t_gR ks r2, Option.bind_some, t_aI k3 (by omega) (by omega), Option.bind_some, a3, ag]
      · rw [if_pos (by decide), if_neg (by decide), e_sd Y (k := 38 + 2 * a) (by rw [Int32.add_zero]; omega) (by omega)]
    by_cases b1 : l2 = 1
    · subst b1
      have j39 := i_addc (x := (38 : Int32) + (2 : Int32) * l1) (c := (1 : Int32)) (n := 1) rfl (by omega) (by omega)
      refine ⟨σ (39 + 2 * a), c1 ?_, d1 ?_⟩
      · rw [if_neg (by decide), if_pos rfl, t_gR k2 r11, Option.bind_some, t_gR ke R3.2, Option.bind_some, t_aI R3.1 (by omega) (by omega), Option.bind_some, a3, E4.1]
      · rw [if_pos (by decide), if_neg (by decide), e_sd Y (k := 39 + 2 * a) (by omega) (by omega)]
    by_cases b2 : l2 = 2
    · subst b2
      refine ⟨hs_is (σ 6) l1, c1 ?_, d1 ?_⟩
      · rw [if_neg (by decide), if_neg (by decide), if_pos rfl, t_gR k2 r11, Option.bind_some, t_gI ke, Option.bind_some, e10]
        rfl
      · rfl
    by_cases b3 : l2 = 3
    · subst b3
      refine ⟨σ (52 + a), c1 ?_, d1 ?_⟩
      · rw [if_neg (by decide), if_neg (by decide), if_neg (by decide), if_pos rfl, t_gR k2 r11, Option.bind_some, t_gR ke R4.2, Option.bind_some, t_aI R4.1 (by omega) (by omega), Option.bind_some, a3, E4.2]
      · rfl
    by_cases b4 : l2 = 4
    · subst b4
      refine ⟨s_bs (fun t => s_kn σ a t) (hs_n σ), c1 ?_, d1 ?_⟩
      · rw [if_neg (by decide), if_neg (by decide), if_neg (by decide), if_neg (by decide), if_pos rfl, t_gR k2 (G_r5 G), Option.bind_some, t_gR k2 r11, Option.bind_some, t_gO ks, Option.bind_some, C_knownBy X.1.1 a1 a2, Option.bind_some]
      · rfl
    by_cases b5 : l2 = 5
    · subst b5
      refine ⟨s_hb σ a, c1 ?_, d1 ?_⟩
      · rw [if_neg (by decide), if_neg (by decide), if_neg (by decide), if_neg (by decide), if_neg (by decide), if_pos rfl, t_gR k2 (G_r5 G), Option.bind_some, t_gR k2 r11, Option.bind_some, t_gO ks, Option.bind_some, C_heldBy X.1.1 a1 a2, Option.bind_some]
      · rfl
    · have ne : ∀ {k : Int32}, l2 ≠ k → l2.toInt ≠ k.toInt := fun h z => h (Int32.toInt_inj.mp z)
      have q0 := ne b0
      have q1 := ne b1
      have q2 := ne b2
      have q3 := ne b3
      have q4 := ne b4
      have q5 := ne b5
      have v0 : (0 : Int32).toInt = 0 := rfl
      have v1 : (1 : Int32).toInt = 1 := rfl
      have v2 : (2 : Int32).toInt = 2 := rfl
      have v3 : (3 : Int32).toInt = 3 := rfl
      have v4 : (4 : Int32).toInt = 4 := rfl
      have v5 : (5 : Int32).toInt = 5 := rfl
      refine ⟨-1, c1 ?_, d1 ?_⟩
      · rw [if_neg b0, if_neg b1, if_neg b2, if_neg b3, if_neg b4, if_neg b5]
      · rw [if_neg (by omega)]
  · refine ⟨-1, ?_, ?_⟩
    · delta F_X11_heir F_X11_heir_b0
      rw [t_gO k2, Option.bind_some, C_isHeirX k2 r11 X.1.1, Option.bind_some, if_neg kH, if_pos rfl]
    · delta F_X12_heir F_X12_heir_b0 F_X12_heir_b20
      rw [e_gO Y.1, Option.bind_some, E_isHeirX Y, Option.bind_some, if_neg kH, if_pos rfl]
-- 7zaf.pure2
/-! thing, knows, count of both -/
theorem lw9_thing {L : Nat} {M : gM} {l1 l2 : Int32} (R : lw9 L M) : ∃ w, F_X11_thing (some 2) l1 l2 M = some w ∧ F_X12_thing (some 175) l1 l2 M = some w := by
  have G := R.1.2
  have k2 := G_k2 G
  refine lw9_look R (fun e σ r11 X Y => ?_)
  have V := Y.2.2
  obtain ⟨⟨ke, ⟨e6, e7⟩, e9, e10⟩, ⟨⟨ks, _⟩, k3, k4⟩, ⟨r0, r1⟩, r2, r3⟩ := k_XE X.1.1
  by_cases kT : s_iT σ l1 = true
  · obtain ⟨a, a1, a2, a3, _⟩ := s_iT_n V kT
    have nn := s_Vn V
    have R0 : g_k M (e + 1) = (20, 7) ∧ M.2.2.2 e 0 = some (e + 1) := k_XR (i := 0) X.1.1 (by decide)
    have R1 : g_k M (e + 2) = (20, 7) ∧ M.2.2.2 e 1 = some (e + 2) := k_XR (i := 1) X.1.1 (by decide)
    have R2 : g_k M (e + 3) = (20, 7) ∧ M.2.2.2 e 2 = some (e + 3) := k_XR (i := 2) X.1.1 (by decide)
    have E3 := X.1.1.2.1.1.2.2.1 a (by omega)
    have st : M.2.1 (9 + 4) a = σ (13 + 4 * a) := X.1.1.2.1.2.2.2 a (by omega)
    have v8 : M.2.1 9 4 = σ 8 := X.1.1.2.1.2.1.1.1
    have c1 : ∀ {w : Int32}, (if l2 = (0 : Int32) then ((gR 11 M (some 2) 11).bind fun v3 => (gR 1 M v3 0).bind fun v4 => (aI 20 M v4 l1).bind fun v5 => some v5) else if l2 = (1 : Int32) then ((gR 11 M (some 2) 11).bind fun v6 => (gR 1 M v6 1).bind fun v7 => (aI 20 M v7 l1).bind fun v8 => some v8) else if l2 = (2 : Int32) then ((gR 11 M (some 2) 11).bind fun v9 => (gR 1 M v9 2).bind fun v10 => (aI 20 M v10 l1).bind fun v11 => some v11) else if l2 = (3 : Int32) then ((gR 11 M (some 2) 11).bind fun v12 => (gI 1 M v12 9).bind fun v13 => (F_X11_bit v13 l1 M).bind fun v14 => some v14) else if l2 = (4 : Int32) then ((gR 11 M (some 2) 5).bind fun v15 => (gI 8 M v15 4).bind fun v16 => (F_X11_bit v16 l1 M).bind fun v17 => some v17) else if l2 = (5 : Int32) then ((gR 11 M (some 2) 5).bind fun v18 => (gR 8 M v18 3).bind fun v19 => (aI 20 M v19 l1).bind fun v20 => some v20) else if l2 = (6 : Int32) then ((gR 11 M (some 2) 5).bind fun v21 => (gR 11 M (some 2) 11).bind fun v22 => (gO 8 M v21).bind fun i23 => (F_X8_holdersOf (some i23) v22 l1 M).bind fun v24 => some v24) else (some (-2 : Int32))) = some w → F_X11_thing (some 2) l1 l2 M = some w := fun h => by
      delta F_X11_thing F_X11_thing_b0
      rw [t_gO k2, Option.bind_some, C_isThingX k2 r11 X.1.1, Option.bind_some, if_pos kT, if_neg (by decide)]
      exact h
    have d1 : ∀ {w : Int32}, (if 0 ≤ l2.toInt ∧ l2.toInt ≤ 6 then (if (3 : Int32) ≤ l2 then (if l2 = (3 : Int32) then (some (hs_is (σ 7) l1)) else (if l2 = (4 : Int32) then (some (hs_is (σ 8) l1)) else (if l2 = (5 : Int32) then (some (σ (10 + 4 * a + 3))) else (some (s_hs σ a))))) else ((F_X12_thingOf (some 175) l1 l2 M).bind fun v10 => some v10)) else some (-2)) = some w → F_X12_thing (some 175) l1 l2 M = some w := fun h => by
      delta F_X12_thing F_X12_thing_b0 F_X12_thing_b20
      rw [e_gO Y.1, Option.bind_some, E_isThingX Y, Option.bind_some, if_pos kT, if_neg (by decide), E_in (a := 0) (b := 6) rfl rfl, Option.bind_some]
      by_cases c : 0 ≤ l2.toInt ∧ l2.toInt ≤ 6
      · rw [if_pos c] at h
        rw [if_pos c, if_neg (by decide), e_sd Y (k := 7) rfl (by decide), e_sd Y (k := 8) rfl (by decide), E_holdersOf Y a1 (by omega), Option.bind_some, E_thingOf Y a1 (w := 3) rfl (by omega) (by decide), Option.bind_some]
        exact h
      · rw [if_neg c] at h
        rw [if_neg c, if_pos rfl]
        exact h
    by_cases b0 : l2 = 0
    · subst b0
      refine ⟨σ (10 + 4 * a), c1 ?_, d1 ?_⟩
      · rw [if_pos rfl, t_gR k2 r11, Option.bind_some, t_gR ke R0.2, Option.bind_some, t_aI R0.1 (by omega) (by omega), Option.bind_some, a3, E3.1.1]
      · rw [if_pos (by decide), if_neg (by decide), E_thingOf Y a1 (w := 0) rfl (by omega) (by decide), Option.bind_some]
        rfl
    by_cases b1 : l2 = 1
    · subst b1
      refine ⟨σ (11 + 4 * a), c1 ?_, d1 ?_⟩
      · rw [if_neg (by decide), if_pos rfl, t_gR k2 r11, Option.bind_some, t_gR ke R1.2, Option.bind_some, t_aI R1.1 (by omega) (by omega), Option.bind_some, a3, E3.1.2]
      · rw [if_pos (by decide), if_neg (by decide), E_thingOf Y a1 (w := 1) rfl (by omega) (by decide), Option.bind_some, show 10 + 4 * a + 1 = 11 + 4 * a by omega]
    by_cases b2 : l2 = 2
    · subst b2
      refine ⟨σ (12 + 4 * a), c1 ?_, d1 ?_⟩
      · rw [if_neg (by decide), if_neg (by decide), if_pos rfl, t_gR k2 r11, Option.bind_some, t_gR ke R2.2, Option.bind_some, t_aI R2.1 (by omega) (by omega), Option.bind_some, a3, E3.2]
      · rw [if_pos (by decide), if_neg (by decide), E_thingOf Y a1 (w := 2) rfl (by omega) (by decide), Option.bind_some, show 10 + 4 * a + 2 = 12 + 4 * a by omega]
    by_cases b3 : l2 = 3
    · subst b3
      refine ⟨hs_is (σ 7) l1, c1 ?_, d1 rfl⟩
      rw [if_neg (by decide), if_neg (by decide), if_neg (by decide), if_pos rfl, t_gR k2 r11, Option.bind_some, t_gI ke, Option.bind_some, e9]
      rfl
    by_cases b4 : l2 = 4
    · subst b4
      refine ⟨hs_is (σ 8) l1, c1 ?_, d1 rfl⟩
      rw [if_neg (by decide), if_neg (by decide), if_neg (by decide), if_neg (by decide), if_pos rfl, t_gR k2 (G_r5 G), Option.bind_some, t_gI ks, Option.bind_some, v8]
      rfl
    by_cases b5 : l2 = 5
    · subst b5
      refine ⟨σ (13 + 4 * a), c1 ?_, d1 ?_⟩
      · rw [if_neg (by decide), if_neg (by decide), if_neg (by decide), if_neg (by decide), if_neg (by decide), if_pos rfl, t_gR k2 (G_r5 G), Option.bind_some, t_gR ks r3, Option.bind_some, t_aI k4 (by omega) (by omega), Option.bind_some, a3, st]
      · rw [show 13 + 4 * a = 10 + 4 * a + 3 by omega]
        rfl
    by_cases b6 : l2 = 6
    · subst b6
      refine ⟨s_hs σ a, c1 ?_, d1 rfl⟩
      rw [if_neg (by decide), if_neg (by decide), if_neg (by decide), if_neg (by decide), if_neg (by decide), if_neg (by decide), if_pos rfl, t_gR k2 (G_r5 G), Option.bind_some, t_gR k2 r11, Option.bind_some, t_gO ks, Option.bind_some, C_holdersOf X.1.1 a1 (by omega), Option.bind_some]
    · have ne : ∀ {k : Int32}, l2 ≠ k → l2.toInt ≠ k.toInt := fun h z => h (Int32.toInt_inj.mp z)
      have q0 := ne b0
      have q1 := ne b1
      have q2 := ne b2
      have q3 := ne b3
      have q4 := ne b4
      have q5 := ne b5
      have q6 := ne b6
      have v0 : (0 : Int32).toInt = 0 := rfl
      have v1 : (1 : Int32).toInt = 1 := rfl
      have v2 : (2 : Int32).toInt = 2 := rfl
      have v3 : (3 : Int32).toInt = 3 := rfl
      have v4 : (4 : Int32).toInt = 4 := rfl
      have v5 : (5 : Int32).toInt = 5 := rfl
      have v6 : (6 : Int32).toInt = 6 := rfl
      refine ⟨-2, c1 ?_, d1 ?_⟩
      · rw [if_neg b0, if_neg b1, if_neg b2, if_neg b3, if_neg b4, if_neg b5, if_neg b6]
      · rw [if_neg (by omega)]
  · refine ⟨-2, ?_, ?_⟩
    · delta F_X11_thing F_X11_thing_b0
      rw [t_gO k2, Option.bind_some, C_isThingX k2 r11 X.1.1, Option.bind_some, if_neg kT, if_pos rfl]
    · delta F_X12_thing F_X12_thing_b0 F_X12_thing_b20
      rw [e_gO Y.1, Option.bind_some, E_isThingX Y, Option.bind_some, if_neg kT, if_pos rfl]
theorem lw9_knows {L : Nat} {M : gM} {l1 l2 l3 : Int32} (R : lw9 L M) : ∃ w, F_X11_knows (some 2) l1 l2 l3 M = some w ∧ F_X12_knows (some 175) l1 l2 l3 M = some w := by
  have G := R.1.2
  have k2 := G_k2 G
  refine lw9_look R (fun e σ r11 X Y => ?_)
  have V := Y.2.2
  obtain ⟨_, ⟨⟨ks, j1, j2⟩, _⟩, ⟨r0, r1⟩, _⟩ := k_XE X.1.1
  have z0 : (0 : Int32).toInt = 0 := rfl
  have z1 : (1 : Int32).toInt = 1 := rfl
  by_cases kH : s_iH σ l1 = true
  · by_cases kT : s_iT σ l2 = true
    · obtain ⟨a, a1, a2, a3, _⟩ := s_iH_n V kH
      obtain ⟨b, b1, b2, b3, _⟩ := s_iT_n V kT
      have nn := s_Vn V
      have ix := k_ix a1 b1 (by omega) (by omega)
      have iy := E_ix a1 b1 (by omega) (by omega)
      have st := k_Xst X.1.1 a2 (t := b) (by omega)
      have kp := (k_Xpos X.1.1 a2 (t := b) (by omega)).2
      by_cases c : 0 ≤ l3.toInt ∧ l3.toInt ≤ 1
      · refine ⟨if l3 = 0 then s_va σ a b else s_st σ a b, ?_, ?_⟩
        · delta F_X11_knows F_X11_knows_b0
          rw [t_gO k2, Option.bind_some, C_isHeirX k2 r11 X.1.1, Option.bind_some, if_pos kH, if_neg (by decide), C_isThingX k2 r11 X.1.1, Option.bind_some, if_pos kT, if_neg (by decide), if_neg (fun z => by have := i_lt z; omega), if_pos (Int32.le_iff_toInt_le.mpr (by omega)), t_gR k2 (G_r5 G), Option.bind_some, t_gR ks r1, Option.bind_some, t_aI j2 (by omega) (by omega), Option.bind_some, i_cl ix, st.1]
          by_cases k : s_kn σ a b = true
          · have v0 := st.2 k
            rw [if_neg (fun z => by rw [kp.mp z] at k; cases k)]
            by_cases d : l3 = 0
            · rw [if_pos d, if_pos d, Option.bind_some, t_gR ks r0, Option.bind_some, t_aI j1 (by omega) (by omega), Option.bind_some, i_cl ix, v0]
            · rw [if_neg d, if_neg d, Option.bind_some, t_gR ks r1, Option.bind_some, t_aI j2 (by omega) (by omega), Option.bind_some, i_cl ix, st.1]
          · have k0 := s_kn0 V a2 (t := b) (by omega) (b_ff k)
            rw [if_pos (kp.mpr (b_ff k)), k0.1, k0.2]
            by_cases d : l3 = 0
            · rw [if_pos d, if_pos d]
            · rw [if_neg d, if_neg d]
        · delta F_X12_knows F_X12_knows_b0
          rw [e_gO Y.1, Option.bind_some, E_isHeirX Y, Option.bind_some, if_pos kH, if_neg (by decide), E_isThingX Y, Option.bind_some, if_pos kT, if_neg (by decide), E_in (a := 0) (b := 1) rfl rfl, Option.bind_some, if_pos c, if_neg (by decide)]
          by_cases d : l3 = 0
          · subst d
            rw [if_pos rfl, e_sd Y (k := 59 + 14 * a + 2 * b) (by rw [Int32.add_zero]; exact iy.1) (by omega)]
            rfl
          · have : l3.toInt ≠ 0 := fun z => d (Int32.toInt_inj.mp z)
            have d1 : l3 = 1 := Int32.toInt_inj.mp (by omega)
            subst d1
            rw [if_neg (by decide), e_sd Y (k := 60 + 14 * a + 2 * b) iy.2 (by omega)]
            rfl
      · refine ⟨-2, ?_, ?_⟩
        · delta F_X11_knows F_X11_knows_b0 F_X11_knows_b25
          rw [t_gO k2, Option.bind_some, C_isHeirX k2 r11 X.1.1, Option.bind_some, if_pos kH, if_neg (by decide), C_isThingX k2 r11 X.1.1, Option.bind_some, if_pos kT, if_neg (by decide)]
          by_cases d : l3 < 0
          · rw [if_pos d]
          · have := i_nlt d
            rw [if_neg d, if_neg (fun z => by have := i_le z; omega)]
        · delta F_X12_knows F_X12_knows_b0 F_X12_knows_b47
          rw [e_gO Y.1, Option.bind_some, E_isHeirX Y, Option.bind_some, if_pos kH, if_neg (by decide), E_isThingX Y, Option.bind_some, if_pos kT, if_neg (by decide), E_in (a := 0) (b := 1) rfl rfl, Option.bind_some, if_neg c, if_pos rfl]
    · refine ⟨-2, ?_, ?_⟩
      · delta F_X11_knows F_X11_knows_b0 F_X11_knows_b25
        rw [t_gO k2, Option.bind_some, C_isHeirX k2 r11 X.1.1, Option.bind_some, if_pos kH, if_neg (by decide), C_isThingX k2 r11 X.1.1, Option.bind_some, if_neg kT, if_pos rfl]
      · delta F_X12_knows F_X12_knows_b0 F_X12_knows_b47
        rw [e_gO Y.1, Option.bind_some, E_isHeirX Y, Option.bind_some, if_pos kH, if_neg (by decide), E_isThingX Y, Option.bind_some, if_neg kT, if_pos rfl]
  · refine ⟨-2, ?_, ?_⟩
    · delta F_X11_knows F_X11_knows_b0 F_X11_knows_b25
      rw [t_gO k2, Option.bind_some, C_isHeirX k2 r11 X.1.1, Option.bind_some, if_neg kH, if_pos rfl]
    · delta F_X12_knows F_X12_knows_b0 F_X12_knows_b47
      rw [e_gO Y.1, Option.bind_some, E_isHeirX Y, Option.bind_some, if_neg kH, if_pos rfl]
theorem lw9_count {L : Nat} {M : gM} {l1 : Int32} (R : lw9 L M) : ∃ w, F_X11_count (some 2) l1 M = some w ∧ F_X12_count (some 175) l1 M = some w := by
  obtain ⟨R8, e, σ, nx, sz, P, I, rc, Rr, C, E⟩ := R
  have G := R8.2
  have k2 := G_k2 G
  have r11 := C.1.1.1
  have X := C.1.1.2
  have H := R8.1.1.1.1.1.2
  have Y : e_V M σ := ⟨H, E.1.1.1, X.1.1.2.2⟩
  obtain ⟨⟨ke, ⟨e6, e7⟩, _⟩, ⟨⟨ks, _⟩, _⟩, _⟩ := k_XE X.1.1
  have e8 : M.2.1 e 8 = σ 3 := X.1.1.2.1.1.1.2
  have S1 := X.1.1.2.1.2.1
  have k131 : g_k M 131 = (9, 0) := k_kd G (by decide)
  have t1 : M.2.1 131 6 = M.2.1 175 1 := R8.1.1.2.1.2
  have t2 : M.2.1 2 12 = M.2.1 175 2 := R8.1.1.2.2.1
  have t3 := R8.1.2.1
  have sd : ∀ {k : Nat} {j : Int32} {β : Type} {f : Int32 → Option β}, j.toInt = (k : Int) → k < 157 → ((gR 12 M (some 175) 20).bind fun v => (aI 20 M v j).bind f) = f (σ k) := fun hj hk => e_sd Y hj hk
  delta F_X11_count F_X11_count_b0 F_X12_count F_X12_count_b0 F_X12_count_b64
  by_cases b0 : l1 = 0
  · subst b0
    rw [if_pos rfl, if_pos rfl, t_gR k2 r11, Option.bind_some, t_gI ke, Option.bind_some, e6, sd (k := 1) rfl (by decide)]
    exact ⟨_, rfl, rfl⟩
  rw [if_neg b0, if_neg b0]
  by_cases b1 : l1 = 1
  · subst b1
    rw [if_pos rfl, if_pos rfl, t_gR k2 r11, Option.bind_some, t_gI ke, Option.bind_some, e7, sd (k := 2) rfl (by decide)]
    exact ⟨_, rfl, rfl⟩
  rw [if_neg b1, if_neg b1]
  by_cases b2 : l1 = 2
  · subst b2
    rw [if_pos rfl, if_pos rfl, t_gR k2 r11, Option.bind_some, t_gI ke, Option.bind_some, e8, sd (k := 3) rfl (by decide)]
    exact ⟨_, rfl, rfl⟩
  rw [if_neg b2, if_neg b2]
  by_cases b3 : l1 = 3
  · rw [if_pos b3, if_pos b3, t_gI k2, Option.bind_some, e_gI H, Option.bind_some, t2]
    exact ⟨_, rfl, rfl⟩
  rw [if_neg b3, if_neg b3]
  by_cases b4 : l1 = 4
  · rw [if_pos b4, if_pos b4, t_gI k2, Option.bind_some, e_gI H, Option.bind_some, t3.1]
    exact ⟨_, rfl, rfl⟩
  rw [if_neg b4, if_neg b4]
  by_cases b5 : l1 = 5
  · rw [if_pos b5, if_pos b5, t_gR k2 (G_r5 G), Option.bind_some, t_gI ks, Option.bind_some, S1.1.2, sd (k := 4) rfl (by decide)]
    exact ⟨_, rfl, rfl⟩
  rw [if_neg b5, if_neg b5]
  by_cases b6 : l1 = 6
  · rw [if_pos b6, if_pos b6, t_gR k2 (G_r5 G), Option.bind_some, t_gI ks, Option.bind_some, S1.2, sd (k := 5) rfl (by decide)]
    exact ⟨_, rfl, rfl⟩
  rw [if_neg b6, if_neg b6]
  by_cases b7 : l1 = 7
  · rw [if_pos b7, if_pos b7, t_gR k2 (G_r5 G), Option.bind_some, t_gR k2 r11, Option.bind_some, t_gO ks, Option.bind_some, C_standing X.1.1, Option.bind_some, e_gO H, Option.bind_some, E_standing Y, Option.bind_some]
    exact ⟨_, rfl, rfl⟩
  rw [if_neg b7, if_neg b7]
  by_cases b8 : l1 = 8
  · rw [if_pos b8, if_pos b8, t_gR k2 (G_r5 G), Option.bind_some, t_gR k2 r11, Option.bind_some, t_gO ks, Option.bind_some, C_heldTogether X.1.1, Option.bind_some, e_gO H, Option.bind_some, E_allHolds Y, Option.bind_some]
    exact ⟨_, rfl, rfl⟩
  rw [if_neg b8, if_neg b8]
  by_cases b9 : l1 = 9
  · have eq : M.2.1 19 2 = M.2.1 175 25 := Int32.toInt_inj.mp (C.1.2.1.1.2.trans E.1.1.2.symm)
    rw [if_pos b9, if_pos b9, t_gR k2 (G_r7 G), Option.bind_some, t_gI (G_k19 G), Option.bind_some, e_gI H, Option.bind_some, eq]
    exact ⟨_, rfl, rfl⟩
  rw [if_neg b9, if_neg b9]
  by_cases b10 : l1 = 10
  · rw [if_pos b10, if_pos b10, t_gI k2, Option.bind_some, e_gI H, Option.bind_some, t3.2]
    exact ⟨_, rfl, rfl⟩
  rw [if_neg b10, if_neg b10]
  by_cases b11 : l1 = 11
  · rw [if_pos b11, if_pos b11, t_gR k2 (G_r0 G), Option.bind_some, t_gI k131, Option.bind_some, e_gI H, Option.bind_some, t1]
    exact ⟨_, rfl, rfl⟩
  rw [if_neg b11, if_neg b11]
  exact ⟨_, rfl, rfl⟩
-- 7zag.qry
/-! what is asked of later YEARS: of both -/
def q_N (i : Nat) : Prop := (5 ≤ i ∧ i ≤ 8) ∨ (14 ≤ i ∧ i ≤ 18) ∨ (122 ≤ i ∧ i ≤ 124)
theorem lw9_qry {L S : Nat} {lo hi lo2 hi2 : Int} {M : gM} {o1 : Option (Int32 × gM)} {o2 : gM → Option (Int32 × gM)} (R : lw9 L M) (z1 : Ok o1 (q_PI q_ba M lo hi)) (z2 : ∀ M1, y_HT M1 → y_W M1 → Ok (o2 M1) (y_PI S M1 lo2 hi2)) (hW : Nat.land S y_wb = 0) (hS : Nat.land S (2 ^ 1 + 2 ^ 2 + 2 ^ 41) = 0) (h6 : Nat.land S (2 ^ 21 + 2 ^ 22 + 2 ^ 59 + 2 ^ 60 + 2 ^ 61) = 0) (h9 : Nat.land S (2 ^ 2 + 2 ^ 25 + 2 ^ 42 + 2 ^ 44 + 2 ^ 45 + 2 ^ 52 + 2 ^ 58) = 0)
    (c : ∀ (e : Nat) (σ : Nat → Int32) (nx sz : Nat) (P I : Nat → Nat → Int32) (rc : Nat) (Rr : Nat → List (Nat × Int32) × List (Nat × Nat × Nat)), w_C M e σ nx sz P I rc Rr → rc ≤ 6 → (M.2.1 2 13).toInt < (rc : Int) → ∃ w : Int32, Ok o1 (fun q => q.1 = w ∧ w_F q_N M q.2) ∧ ∀ M1, e_V M1 σ → w_E M1 σ sz P I rc Rr → M1.2.1 175 21 = M.2.1 2 13 → M1.2.1 175 22 = M.2.1 2 14 → Ok (o2 M1) (fun q => q.1 = w ∧ ∀ j, j < 157 → q.2.2.1 185 j = σ j)) : lw_42 L M o1 o2 := by
  obtain ⟨R8, e, σ, nx, sz, P, I, rc, Rr, C, E⟩ := R
  have W0 := R8.1.1.1.1.2
  have rc2 : (M.2.1 175 2).toInt = (rc : Int) := E.2.2.1
  have H0 := R8.1.1.1.1.1.2
  have r6 : rc ≤ 6 := by
    have := (H0.2.1 175 (by decide) 2).2
    have q : (y_tI 175 2).2 = 6 := rfl
    rw [q] at this
    omega
  have f13 := R8.1.2.1.1
  have f14 := R8.1.2.1.2
  have hf : (M.2.1 2 13).toInt < (rc : Int) := by
    rw [f13, ← rc2]
    exact W0.1.1
  obtain ⟨w, c1, c2⟩ := c e σ nx sz P I rc Rr C r6 hf
  obtain ⟨⟨w1, M1⟩, e1, y1, q1, F1⟩ := Ok_and z1 c1
  dsimp only at q1 F1
  subst q1
  obtain ⟨R1, s1, rr⟩ := lw8_go (S := 0) R8 y1 rfl rfl rfl rfl rfl
  have hl := lw8_len R8.1.1.1
  have n2 := w_FN F1 hl (by unfold q_N; omega)
  have C1 := w_C_F C hl F1 (by rw [n2.2]) (by rw [n2.1]) (fun i z => by unfold q_N at z; omega)
  have E1 := w_E_c E rr
  have H1 := R1.1.1.1.1.1.2
  have X1 : e_V M1 σ := ⟨H1, E1.1.1.1, C.1.1.2.1.1.2.2⟩
  obtain ⟨⟨w2, M2⟩, e2, y2, q2, E2⟩ := Ok_and (z2 M1 H1 R1.1.1.1.1.2) (c2 M1 X1 E1 (by rw [rr 175 (by decide)]; exact f13.symm) (by rw [rr 175 (by decide)]; exact f14.symm))
  dsimp only at q2 E2
  subst q2
  obtain ⟨R2, s2⟩ := lw8_gr R1 hW hS h6 y2
  exact ⟨_, M1, M2, ⟨e1, R1.1.1.1, s1⟩, e2, ⟨R2, e, M2.2.1 185, nx, sz, P, I, rc, Rr, w_C_congr (w_C_r C1 (lw8_len R1.1.1.1) y2.2.2) E2, w_E_r E1 y2.2.2 h9 rfl⟩, s2.trans s1⟩
/-- nothing is asked -/
theorem lw9_qn {M : gM} {σ : Nat → Int32} {sz : Nat} {P I : Nat → Nat → Int32} {rc : Nat} {Rr : Nat → List (Nat × Int32) × List (Nat × Nat × Nat)} {w : Int32} {o1 : Option (Int32 × gM)} {o2 : gM → Option (Int32 × gM)} (h1 : o1 = some (w, M)) (h2 : ∀ M1, e_V M1 σ → o2 M1 = some (w, M1)) : ∃ w : Int32, Ok o1 (fun q => q.1 = w ∧ w_F q_N M q.2) ∧ ∀ M1, e_V M1 σ → w_E M1 σ sz P I rc Rr → M1.2.1 175 21 = M.2.1 2 13 → M1.2.1 175 22 = M.2.1 2 14 → Ok (o2 M1) (fun q => q.1 = w ∧ ∀ j, j < 157 → q.2.2.1 185 j = σ j) :=
  ⟨w, by rw [h1]; exact Ok_s ⟨rfl, w_F_r⟩, fun M1 X E _ _ => by rw [h2 M1 X]; exact Ok_s ⟨rfl, fun j _ => by rw [X.2.1]⟩⟩
/-! kept and laid back -/
theorem E_keeps {M : gM} (H : y_HT M) : Ok (F_X12_keeps (some 175) M) (fun M' => (y_HT M' ∧ y_Fr (2 ^ 53) M M') ∧ M'.2.2.1 = M.2.2.1 ∧ ∀ j, j < 157 → M'.2.1 188 j = M.2.1 185 j) := by
  have z157 : (157 : Int32).toInt = 157 := rfl
  delta F_X12_keeps F_X12_keeps_b0
  refine e_cp (di := 188) (si := 185) (db := 0) (sb := 0) (S := 2 ^ 53) (G := fun n l M => F_X12_keeps_L2 n (some 175) l M) (E := fun M => some M) (M0 := M) ⟨by decide, by decide⟩ (by decide) (by decide) (fun q => by rw [y_c185 (by decide), y_c185 (by decide)]) (fun M1 k H1 hk => ?_) (fun n l k M1 hl hk H1 o => ?_) (fun n l M1 hl => ?_) (fun M1 H1 f1 o1 ol c1 r1 => ?_) g_fuel 0 (l := 0) H (y_rf0 _ _) (fun _ _ => rfl) rfl (fun j hj => absurd hj (Nat.not_lt_zero _)) (fun _ _ => rfl) rfl (Nat.zero_le _) (n_fu (by omega))
  · rw [Nat.zero_add]
    exact H1.2.1 185 (by decide) k
  · show F_X12_keeps_b2 (F_X12_keeps_L2 n) (some 175) l M1 = _
    delta F_X12_keeps_b2
    rw [if_neg (fun z => by have := i_le z; omega), e_gR H1 (w := 188) rfl (by decide), Option.bind_some, e_gR H1 (w := 185) rfl (by decide), Option.bind_some, e_aI H1 (t := 20) (i := 185) (n := 157) rfl (by decide) (by omega) (by omega), Option.bind_some, i_cl hl, e_sI H1 (i := 188) (n := 157) rfl (by omega) (by omega), Option.bind_some, i_cl hl, Nat.zero_add]
  · show F_X12_keeps_b2 (F_X12_keeps_L2 n) (some 175) l M1 = _
    delta F_X12_keeps_b2
    rw [if_pos (Int32.le_iff_toInt_le.mpr (by omega))]
  · refine Ok_s ⟨⟨H1, f1⟩, ol, fun j hj => ?_⟩
    have := c1 j hj
    rw [Nat.zero_add] at this
    exact this
theorem E_lays {M : gM} (H : y_HT M) : Ok (F_X12_laysBack (some 175) M) (fun M' => (y_HT M' ∧ y_Fr (2 ^ 50) M M') ∧ M'.2.2.1 = M.2.2.1 ∧ (∀ j, j < 157 → M'.2.1 185 j = M.2.1 188 j) ∧ ∀ j, ¬ j < 157 → M'.2.1 185 j = M.2.1 185 j) := by
  have z157 : (157 : Int32).toInt = 157 := rfl
  delta F_X12_laysBack F_X12_laysBack_b0
  refine e_cp (di := 185) (si := 188) (db := 0) (sb := 0) (S := 2 ^ 50) (G := fun n l M => F_X12_laysBack_L2 n (some 175) l M) (E := fun M => some M) (M0 := M) ⟨by decide, by decide⟩ (by decide) (by decide) (fun q => by rw [y_c185 (by decide), y_c185 (by decide)]) (fun M1 k H1 hk => ?_) (fun n l k M1 hl hk H1 o => ?_) (fun n l M1 hl => ?_) (fun M1 H1 f1 o1 ol c1 r1 => ?_) g_fuel 0 (l := 0) H (y_rf0 _ _) (fun _ _ => rfl) rfl (fun j hj => absurd hj (Nat.not_lt_zero _)) (fun _ _ => rfl) rfl (Nat.zero_le _) (n_fu (by omega))
  · rw [Nat.zero_add]
    exact H1.2.1 188 (by decide) k
  · show F_X12_laysBack_b2 (F_X12_laysBack_L2 n) (some 175) l M1 = _
    delta F_X12_laysBack_b2
    rw [if_neg (fun z => by have := i_le z; omega), e_gR H1 (w := 185) rfl (by decide), Option.bind_some, e_gR H1 (w := 188) rfl (by decide), Option.bind_some, e_aI H1 (t := 20) (i := 188) (n := 157) rfl (by decide) (by omega) (by omega), Option.bind_some, i_cl hl, e_sI H1 (i := 185) (n := 157) rfl (by omega) (by omega), Option.bind_some, i_cl hl, Nat.zero_add]
  · show F_X12_laysBack_b2 (F_X12_laysBack_L2 n) (some 175) l M1 = _
    delta F_X12_laysBack_b2
    rw [if_pos (Int32.le_iff_toInt_le.mpr (by omega))]
  · refine Ok_s ⟨⟨H1, f1⟩, ol, fun j hj => ?_, fun j hj => r1 j (by omega)⟩
    have := c1 j hj
    rw [Nat.zero_add] at this
    exact this
theorem kw_hi {σ : Nat → Int32} {h t j : Nat} {a v : Int32} (hh : h < 7) (ht : t < 7) (hj : 157 ≤ j) : s_kw σ h t a v j = σ j := kw_o (by omega) (by omega)
theorem f1_hi {σ : Nat → Int32} {L : Nat → Nat → Int32} {h t j : Nat} (hh : h < 7) (ht : t < 7) (hj : 157 ≤ j) : s_f1 σ L h t j = σ j := by
  unfold s_f1
  split
  · exact kw_hi hh ht hj
  · rfl
theorem fh_hi {σ : Nat → Int32} {L : Nat → Nat → Int32} {h j : Nat} (hh : h < 7) (hj : 157 ≤ j) : ∀ k, k ≤ 7 → s_fh σ L h k j = σ j := by
  intro k
  induction k with
  | zero => intro _; rfl
  | succ k ih => intro hk; exact (f1_hi hh (by omega) hj).trans (ih (by omega))
theorem fo_hi {σ : Nat → Int32} {L : Nat → Nat → Int32} {j : Nat} (hn : hs_n σ ≤ 7) (hj : 157 ≤ j) : ∀ k, k ≤ 7 → s_fo σ L k j = σ j := by
  intro k
  induction k with
  | zero => intro _; rfl
  | succ k ih => intro hk; exact (fh_hi (by omega) hj _ hn).trans (ih (by omega))
theorem yr_hi {r : s_Ru} {σ : Nat → Int32} (V : s_V σ) {j : Nat} (hj : 157 ≤ j) : (s_yr r σ).2 j = σ j := by
  have nn := s_Vn V
  show hs_set (s_ks (s_ag (s_fo σ (s_Ls r σ) (hs_m σ)) (hs_m σ)) (hs_n σ)).2 4 _ j = σ j
  rw [hs_sn (by omega), ks_o (fun k hk => by omega) _ (by omega), ag_o (fun k hk => by omega) _ (by omega), fo_hi nn.1.2 hj _ nn.2.2]
/-- the reference while it is asked: the cells as they go on, what was kept -/
def e_Q (r : s_Ru) (ρ : Nat → Int32) (M : gM) (σ : Nat → Int32) : Prop := (e_V M σ ∧ e_I r M) ∧ (∀ j, j < 157 → M.2.1 188 j = ρ j) ∧ ∀ j, 157 ≤ j → σ j = ρ j
theorem E_q_keeps {M : gM} {σ : Nat → Int32} {r : s_Ru} (X : e_V M σ) (I : e_I r M) : Ok (F_X12_keeps (some 175) M) (fun M' => e_Q r σ M' σ ∧ M'.2.2.1 = M.2.2.1) := by
  refine Ok_w (E_keeps X.1) (fun M' z => ?_)
  obtain ⟨⟨H, f⟩, l, k⟩ := z
  exact ⟨⟨⟨e_V_fr X H f (by decide), e_I_m I f (by decide)⟩, fun j hj => by rw [k j hj, X.2.1], fun _ _ => rfl⟩, l⟩
theorem E_q_lays {M : gM} {σ ρ : Nat → Int32} {r : s_Ru} (Vρ : s_V ρ) (Q : e_Q r ρ M σ) : Ok (F_X12_laysBack (some 175) M) (fun M' => e_Q r ρ M' ρ ∧ M'.2.2.1 = M.2.2.1) := by
  refine Ok_w (E_lays Q.1.1.1) (fun M' z => ?_)
  obtain ⟨⟨H, f⟩, l, k1, k2⟩ := z
  refine ⟨⟨⟨⟨H, funext (fun j => ?_), Vρ⟩, e_I_m Q.1.2 f (by decide)⟩, fun j hj => by rw [y_fa (i := 188) f (by decide) (by decide) j]; exact Q.2.1 j hj, fun _ _ => rfl⟩, l⟩
  by_cases c : j < 157
  · rw [k1 j c]
    exact Q.2.1 j c
  · rw [k2 j c, Q.1.1.2.1]
    exact Q.2.2 j (by omega)
theorem E_q_year {M : gM} {σ ρ : Nat → Int32} {r : s_Ru} (Q : e_Q r ρ M σ) (hy : 0 ≤ (σ 4).toInt) : Ok (F_X12_passes (some 175) M) (fun q => q.1 = (s_yr r σ).1 ∧ e_Q r ρ q.2 (s_yr r σ).2) := by
  refine Ok_w (E_year Q.1.1 Q.1.2 hy) (fun q z => ?_)
  obtain ⟨z1, ⟨X, I⟩, f⟩ := z
  exact ⟨z1, ⟨X, I⟩, fun j hj => by rw [y_fa (i := 188) f (by decide) (by decide) j]; exact Q.2.1 j hj, fun j hj => (yr_hi Q.1.1.2.2 hj).trans (Q.2.2 j hj)⟩
/-! YEARS, one by one -/
noncomputable def s_ny (r : s_Ru) (σ : Nat → Int32) : Nat → Nat → Int32
  | 0 => σ
  | k + 1 => (s_yr r (s_ny r σ k)).2
theorem ny_i {r : s_Ru} {σ : Nat → Int32} (V : s_V σ) (hy : 0 ≤ (σ 4).toInt ∧ (σ 4).toInt ≤ 999) : ∀ k, k ≤ 10000 → (s_V (s_ny r σ k) ∧ (s_ny r σ k 4).toInt = (σ 4).toInt + k) ∧ ∀ j, j < 10 → j ≠ 4 → s_ny r σ k j = σ j := by
  intro k
  induction k with
  | zero => intro _; exact ⟨⟨V, by show (σ 4).toInt = (σ 4).toInt + 0; omega⟩, fun _ _ _ => rfl⟩
  | succ k ih =>
    intro hk
    obtain ⟨⟨a1, a2⟩, a3⟩ := ih (by omega)
    refine ⟨⟨yr_Vx a1 (by omega), ?_⟩, fun j h1 h2 => (yr_lo a1 h1 h2).trans (a3 j h1 h2)⟩
    show ((s_yr r (s_ny r σ k)).2 4).toInt = _
    rw [yr_4 a1, i_addc (n := 1) rfl (by omega) (by omega)]
    omega
theorem ny_nm {r : s_Ru} {σ : Nat → Int32} (V : s_V σ) (hy : 0 ≤ (σ 4).toInt ∧ (σ 4).toInt ≤ 999) {k : Nat} (hk : k ≤ 10000) : hs_n (s_ny r σ k) = hs_n σ ∧ hs_m (s_ny r σ k) = hs_m σ := nm_of (fun j hj => (ny_i V hy k hk).2 j (by omega) (by omega))
/-! the class while it is asked: the State later -/
def q_F (M0 M : gM) : Prop := (M.1 = M0.1 ∧ M.2.2.2 = M0.2.2.2) ∧ ∀ i, ¬ (5 ≤ i ∧ i ≤ 8) → ¬ (14 ≤ i ∧ i ≤ 18) → M.2.1 i = M0.2.1 i
theorem q_F_r {M : gM} : q_F M M := ⟨⟨rfl, rfl⟩, fun _ _ _ => rfl⟩
theorem q_F_t {M M1 M2 : gM} (h1 : q_F M M1) (h2 : q_F M1 M2) : q_F M M2 := ⟨⟨h2.1.1.trans h1.1.1, h2.1.2.trans h1.1.2⟩, fun i a b => (h2.2 i a b).trans (h1.2 i a b)⟩
theorem q_F_s {M M' : gM} (h : k_Fs 14 M M') : q_F M M' := ⟨⟨h.1.1.1, h.1.2⟩, fun i _ b => h.2 i (by omega)⟩
theorem q_F_y {M M' : gM} (h : k_Fy 14 M M') : q_F M M' := ⟨h.1, fun i a b => (h.2 i a (by omega)).1⟩
theorem q_F_w {M M' : gM} (h : q_F M M') : w_F q_N M M' := w_F_of h.1.1 h.1.2 (fun i hi => h.2 i (by unfold q_N at hi; omega) (by unfold q_N at hi; omega))
def q_C (M0 M : gM) (e : Nat) (σ : Nat → Int32) : Prop := q_F M0 M ∧ k_X M 14 e σ
def q_B (M0 : gM) (e : Nat) (r : s_Ru) (ρ : Nat → Int32) : Prop := ((k_G M0 ∧ 197 ≤ M0.1.length) ∧ M0.2.2.2 2 11 = some e ∧ w_X M0 9 e ρ) ∧ ∃ (rc : Nat) (Rr : Nat → List (Nat × Int32) × List (Nat × Nat × Nat)), (w_Cr M0 rc Rr ∧ rc ≤ 6) ∧ (M0.2.1 2 13).toInt < (rc : Int) ∧ r = s_ru Rr (M0.2.1 2 13)
theorem q_B_of {M : gM} {e : Nat} {σ : Nat → Int32} {nx sz : Nat} {P I : Nat → Nat → Int32} {rc : Nat} {Rr : Nat → List (Nat × Int32) × List (Nat × Nat × Nat)} (G : k_G M) (hl : 197 ≤ M.1.length) (C : w_C M e σ nx sz P I rc Rr) (h6 : rc ≤ 6) (hf : (M.2.1 2 13).toInt < (rc : Int)) : q_B M e (s_ru Rr (M.2.1 2 13)) σ := ⟨⟨⟨G, hl⟩, C.1.1⟩, rc, Rr, ⟨C.2.2, h6⟩, hf, rfl⟩
theorem q_G {M0 M : gM} {e : Nat} {r : s_Ru} {ρ : Nat → Int32} (B : q_B M0 e r ρ) (f : q_F M0 M) : (k_G M ∧ M.2.2.2 2 11 = some e) ∧ w_X M 9 e ρ := by
  have wh := B.1.2.2.1.2
  exact ⟨⟨k_G_eq B.1.1.1 f.1.1 f.1.2, by rw [f.1.2]; exact B.1.2.1⟩, w_X_F B.1.2.2 (q_F_w f) (fun j a b z => by unfold q_N at z; omega) (fun j a b z => by unfold q_N at z; unfold w_h at wh; omega)⟩
/-- later becomes as it is now -/
theorem C_q_copy {M0 M : gM} {e : Nat} {r : s_Ru} {ρ : Nat → Int32} (B : q_B M0 e r ρ) (f : q_F M0 M) : Ok (F_X8_copy (some 14) (some 9) M) (fun M' => q_C M0 M' e ρ) := by
  obtain ⟨⟨G, r11⟩, X⟩ := q_G B f
  have wh := X.1.2
  refine Ok_w (C_copyX (k_LS_of G (s := 14) (by decide)) X (by omega) (fun i a b => by unfold w_h at wh; omega)) (fun M' z => ?_)
  exact ⟨q_F_t f (q_F_s z.1), z.2.1.1⟩
theorem C_q_rule {M0 M : gM} {e : Nat} {r : s_Ru} {ρ : Nat → Int32} (B : q_B M0 e r ρ) (f : q_F M0 M) : Ok (F_X11_ruleInForce (some 2) M) (fun rl => c_J r rl M) := by
  obtain ⟨⟨G, r11⟩, X⟩ := q_G B f
  obtain ⟨⟨⟨_, hl⟩, _⟩, rc, Rr, ⟨Cr, h6⟩, hf, er⟩ := B
  have i2 : M.2.1 2 = M0.2.1 2 := f.2 2 (by omega) (by omega)
  have Cr' := w_Cr_F Cr hl (q_F_w f) (by rw [i2]) (fun i z => by unfold q_N at z; omega)
  have := C_inForce G Cr' h6 (by rw [i2]; exact hf)
  rw [i2] at this
  rw [er]
  exact this
/-- a YEAR later -/
theorem C_q_year {M0 M : gM} {e : Nat} {r : s_Ru} {ρ σ : Nat → Int32} {rl : Option Nat} (B : q_B M0 e r ρ) (Q : q_C M0 M e σ) (hy : 0 ≤ (σ 4).toInt) (J : c_J r rl M) : Ok (F_X10_pass (some 4) (some e) (some 14) rl M) (fun q => q_C M0 q.2 e (s_yr r σ).2) := by
  have wh := B.1.2.2.1.2
  have G := (q_G B Q.1).1.1
  refine Ok_w (C_year (s := 14) (by decide) (by unfold w_h at wh; omega) (by unfold w_h at wh; omega) (k_Y_G G) Q.2 hy J) (fun q z => ?_)
  exact ⟨q_F_t Q.1 (q_F_y z.2.2), z.2.1.1⟩
-- 7zah.ahead
/-! AHEAD, FIELDS, LONGEST -/
theorem sd0 {σ : Nat → Int32} (V : s_V σ) : s_sd σ = 0 ↔ ∀ t, t < hs_n σ → 0 ≤ (σ (13 + 4 * t)).toInt := by
  have nn := s_Vn V
  unfold s_sd
  rw [bs_zero (by omega)]
  constructor
  · intro h t ht
    have := of_decide_eq_false (h t ht)
    omega
  · intro h t ht
    exact decide_eq_false (by have := h t ht; omega)
theorem hb0 {σ : Nat → Int32} {h : Nat} (V : s_V σ) (c : ∀ t, t < hs_n σ → 0 ≤ (σ (13 + 4 * t)).toInt) : s_hb σ h = 0 := by
  have nn := s_Vn V
  unfold s_hb
  rw [bs_zero (by omega)]
  intro t ht
  unfold s_ho
  rw [decide_eq_false (by have := c t ht; omega)]
  rfl
theorem yr_38 {r : s_Ru} {σ : Nat → Int32} (V : s_V σ) {j : Nat} (h1 : j < 38) (h2 : j ≠ 4) (h3 : ∀ k, k < 7 → j ≠ 13 + 4 * k) : (s_yr r σ).2 j = σ j := by
  have nn := s_Vn V
  show hs_set (s_ks (s_ag (s_fo σ (s_Ls r σ) (hs_m σ)) (hs_m σ)) (hs_n σ)).2 4 _ j = σ j
  rw [hs_sn h2, ks_o h3 _ (by omega), ag_o (fun k hk => by omega) _ (by omega), fo_lo (by omega)]
theorem ny_38 {r : s_Ru} {σ : Nat → Int32} (V : s_V σ) (hy : 0 ≤ (σ 4).toInt ∧ (σ 4).toInt ≤ 999) {j : Nat} (h1 : j < 38) (h2 : j ≠ 4) (h3 : ∀ k, k < 7 → j ≠ 13 + 4 * k) : ∀ k, k ≤ 10000 → s_ny r σ k j = σ j := by
  intro k
  induction k with
  | zero => intro _; rfl
  | succ k ih =>
    intro hk
    exact (yr_38 (ny_i V hy k (by omega)).1.1 h1 h2 h3).trans (ih (by omega))
theorem ny_sk {r : s_Ru} {σ : Nat → Int32} (V : s_V σ) (hy : 0 ≤ (σ 4).toInt ∧ (σ 4).toInt ≤ 999) {t k : Nat} (ht : t < 7) (c : 0 ≤ (s_ny r σ k (13 + 4 * t)).toInt) : ∀ d, k + d ≤ 10000 → s_ny r σ (k + d) (13 + 4 * t) = s_ny r σ k (13 + 4 * t) := by
  intro d
  induction d with
  | zero => intro _; rfl
  | succ d ih =>
    intro hd
    have e := ih (by omega)
    have V1 := (ny_i (r := r) V hy (k + d) (by omega)).1.1
    rcases yr_st (r := r) V1 ht with z | z
    · exact z.trans e
    · rw [e] at z
      omega
theorem ny_sb {r : s_Ru} {σ : Nat → Int32} (V : s_V σ) (hy : 0 ≤ (σ 4).toInt ∧ (σ 4).toInt ≤ 999) (Q : s_Qd σ) {t : Nat} (ht : t < hs_n σ) : ∀ k, k ≤ 1000 → (s_ny r σ k (13 + 4 * t)).toInt ≤ 999 + k := by
  have nn := s_Vn V
  intro k
  induction k with
  | zero => intro _; exact (by have := Q.2 t ht; show (σ (13 + 4 * t)).toInt ≤ _; omega)
  | succ k ih =>
    intro hk
    have V1 := ny_i (r := r) V hy k (by omega)
    rcases yr_st (r := r) V1.1.1 (t := t) (by omega) with z | z
    · have := ih (by omega)
      show ((s_yr r (s_ny r σ k)).2 (13 + 4 * t)).toInt ≤ _
      rw [z]
      omega
    · show ((s_yr r (s_ny r σ k)).2 (13 + 4 * t)).toInt ≤ _
      rw [z.1]
      omega
/-- all STRUCK: the same for ever -/
theorem ny_all {r : s_Ru} {σ : Nat → Int32} (V : s_V σ) (hy : 0 ≤ (σ 4).toInt ∧ (σ 4).toInt ≤ 999) {k n : Nat} (hkn : k ≤ n) (hn : n ≤ 1000) (c : s_sd (s_ny r σ k) = 0) : ∀ t, t < hs_n σ → 0 ≤ (s_ny r σ k (13 + 4 * t)).toInt ∧ s_ny r σ n (13 + 4 * t) = s_ny r σ k (13 + 4 * t) := by
  intro t ht
  have nn := s_Vn V
  have V1 := (ny_i (r := r) V hy k (by omega)).1.1
  have nm := ny_nm (r := r) V hy (k := k) (by omega)
  have a := (sd0 V1).mp c t (by rw [nm.1]; exact ht)
  have := ny_sk (r := r) V hy (t := t) (k := k) (by omega) a (n - k) (by omega)
  rw [show k + (n - k) = n by omega] at this
  exact ⟨a, this⟩
theorem C_look_L13 {M0 : gM} {e : Nat} {r : s_Ru} {ρ : Nat → Int32} {N : Int32} {nn : Nat} (B : q_B M0 e r ρ) (V : s_V ρ) (hy : 0 ≤ (ρ 4).toInt ∧ (ρ 4).toInt ≤ 999) (hN : N.toInt = (nn : Int)) (h2 : nn ≤ 200) : ∀ (n k : Nat) {l2 : Int32} {M : gM}, q_C M0 M e (s_ny r ρ k) → l2.toInt = (k : Int) → k ≤ nn → nn - k < n → Ok (F_X11_lookAhead_L13 n (some 2) N l2 M) (fun M' => ∃ k, k ≤ nn ∧ q_C M0 M' e (s_ny r ρ k) ∧ (k = nn ∨ s_sd (s_ny r ρ k) = 0)) := by
  intro n
  induction n with
  | zero => intro k l2 M _ _ _ _; omega
  | succ n ih =>
    intro k l2 M Q hl hk hn
    obtain ⟨⟨G, r11⟩, X⟩ := q_G B Q.1
    have g2 := G_k2 G
    obtain ⟨_, ⟨⟨ks, _⟩, _⟩, _⟩ := k_XE Q.2
    show Ok (F_X11_lookAhead_b13 (F_X11_lookAhead_L13 n) (some 2) N l2 M) _
    delta F_X11_lookAhead_b13
    by_cases c : N ≤ l2
    · have := i_le c
      exact Ok_t c (Ok_s ⟨k, hk, Q, Or.inl (by omega)⟩)
    · have := i_nle c
      refine Ok_e c (x_gR g2 (G_r6 G) (x_gR g2 r11 (x_gO ks (x_eq (C_standing Q.2) ?_))))
      refine Ok_i (fun d => Ok_s ⟨k, hk, Q, Or.inr d⟩) (fun _ => ?_)
      refine x_gR g2 (G_r4 G) (x_gR g2 r11 (x_gR g2 (G_r6 G) (x_gO g2 ?_)))
      refine Ok_b (C_q_rule B Q.1) (fun rl J => ?_)
      have V1 := ny_i (r := r) V hy k (by omega)
      refine x_gO (G_k4 G) (Ok_b (C_q_year B Q (by omega) J) (fun q z => ?_))
      obtain ⟨v, M12⟩ := q
      exact ih (k + 1) z (i_nx hl (by omega)) (by omega) (by omega)
theorem C_lookAhead {M0 M : gM} {e : Nat} {r : s_Ru} {ρ : Nat → Int32} {N : Int32} {nn : Nat} (B : q_B M0 e r ρ) (f : q_F M0 M) (V : s_V ρ) (hy : 0 ≤ (ρ 4).toInt ∧ (ρ 4).toInt ≤ 999) (hN : N.toInt = (nn : Int)) (h2 : nn ≤ 200) : Ok (F_X11_lookAhead (some 2) N M) (fun M' => ∃ k, k ≤ nn ∧ q_C M0 M' e (s_ny r ρ k) ∧ (k = nn ∨ s_sd (s_ny r ρ k) = 0)) := by
  obtain ⟨⟨G, r11⟩, X⟩ := q_G B f
  have g2 := G_k2 G
  delta F_X11_lookAhead F_X11_lookAhead_b0
  refine x_gR g2 (G_r6 G) (x_gR g2 (G_r5 G) (x_gO (k_LS_of G (s := 14) (by decide)).1.1 ?_))
  refine Ok_b (C_q_copy B f) (fun M4 Q => ?_)
  exact C_look_L13 B V hy hN h2 g_fuel 0 (l2 := 0) Q rfl (Nat.zero_le _) (n_fu (by omega))
theorem q_done {r : s_Ru} {ρ : Nat → Int32} {M : gM} (Q : e_Q r ρ M ρ) : ∀ j, j < 157 → M.2.1 185 j = ρ j := fun j _ => by rw [Q.1.1.2.1]
theorem E_ahead_L28 {r : s_Ru} {ρ : Nat → Int32} {l1 N : Int32} {h nn : Nat} (V : s_V ρ) (hy : 0 ≤ (ρ 4).toInt ∧ (ρ 4).toInt ≤ 999) (h1 : l1.toInt = (h : Int)) (hh : h < 7) (hN : N.toInt = (nn : Int)) (h2 : nn ≤ 200) : ∀ (n k : Nat) {l3 : Int32} {M : gM}, e_Q r ρ M (s_ny r ρ k) → l3.toInt = (k : Int) → k ≤ nn → nn - k < n → Ok (F_X12_ahead_L28 n (some 175) l1 N l3 M) (fun q => q.1 = s_hb (s_ny r ρ nn) h ∧ ∀ j, j < 157 → q.2.2.1 185 j = ρ j) := by
  intro n
  induction n with
  | zero => intro k l3 M _ _ _ _; omega
  | succ n ih =>
    intro k l3 M Q hl hk hn
    show Ok (F_X12_ahead_b28 (F_X12_ahead_L28 n) (some 175) l1 N l3 M) _
    delta F_X12_ahead_b28
    by_cases c : N ≤ l3
    · have := i_le c
      have e : k = nn := by omega
      subst e
      refine Ok_t c (x_eq (e_gO Q.1.1.1) (x_eq (E_holdsOf Q.1.1 h1 hh) ?_))
      refine Ok_b (E_q_lays V Q) (fun M3 z => ?_)
      exact Ok_s ⟨rfl, q_done z.1⟩
    · have := i_nle c
      have V1 := ny_i (r := r) V hy k (by omega)
      refine Ok_e c (x_eq (e_gO Q.1.1.1) (Ok_b (E_q_year Q (by omega)) (fun q z => ?_)))
      obtain ⟨v, M6⟩ := q
      exact ih (k + 1) z.2 (i_nx hl (by omega)) (by omega) (by omega)
theorem lw9_ahead {L : Nat} {M : gM} {l1 l2 : Int32} (R : lw9 L M) : lw_42 L M (F_X11_ahead (some 2) l1 l2 M) (F_X12_ahead (some 175) l1 l2) := by
  have R8 := R.1
  have G := R8.2
  have hl := lw8_len R8.1.1.1
  refine lw9_qry R (S_X11_ahead R8.1.1.1.1.1.1 R8.1.1.1.2.1.1.1) (fun M1 H W => S_X12_ahead H W) (by decide) (by decide) (by decide) (by decide) (fun e σ nx sz P I rc Rr C h6 hf => ?_)
  have X := C.1.1.2
  have k2 := G_k2 G
  have V := X.1.1.2.2
  have Q := X.2.2
  have z0 : (0 : Int32).toInt = 0 := rfl
  have z200 : (200 : Int32).toInt = 200 := rfl
  have B := q_B_of G hl C h6 hf
  have nn := s_Vn V
  by_cases kH : s_iH σ l1 = true
  · obtain ⟨a, a1, a2, a3, _⟩ := s_iH_n V kH
    by_cases c : 0 ≤ l2.toInt ∧ l2.toInt ≤ 200
    · obtain ⟨N, hN⟩ : ∃ N : Nat, l2.toInt = (N : Int) := ⟨l2.toInt.toNat, by omega⟩
      refine ⟨s_hb (s_ny (s_ru Rr (M.2.1 2 13)) σ N) a, ?_, fun M1 X1 E1 f1 _ => ?_⟩
      · delta F_X11_ahead F_X11_ahead_b0
        refine x_gO k2 (x_eq (C_isHeirX k2 C.1.1.1 X.1.1) ?_)
        rw [if_pos kH, if_neg (by decide), if_neg (fun z => by have := i_lt z; omega), if_pos (Int32.le_iff_toInt_le.mpr (by omega))]
        refine Ok_b (C_lookAhead B q_F_r V Q.1 hN (by omega)) (fun M3 z => ?_)
        obtain ⟨k, hk, q, d⟩ := z
        obtain ⟨⟨G3, r3⟩, _⟩ := q_G B q.1
        obtain ⟨_, ⟨⟨ks, _⟩, _⟩, _⟩ := k_XE q.2
        have nm := ny_nm (r := s_ru Rr (M.2.1 2 13)) V Q.1 (k := k) (by omega)
        refine x_gR (G_k2 G3) (G_r6 G3) (x_gR (G_k2 G3) r3 (x_gO ks (x_eq (C_heldBy q.2 a1 (by omega)) ?_)))
        refine Ok_s ⟨?_, q_F_w q.1⟩
        show s_hb (s_ny (s_ru Rr (M.2.1 2 13)) σ k) a = _
        rcases d with d | d
        · rw [d]
        · have al := ny_all (r := s_ru Rr (M.2.1 2 13)) V Q.1 hk (by omega) d
          have nm2 := ny_nm (r := s_ru Rr (M.2.1 2 13)) V Q.1 (k := N) (by omega)
          rw [hb0 (ny_i V Q.1 k (by omega)).1.1 (fun t ht => (al t (by omega)).1), hb0 (ny_i V Q.1 N (by omega)).1.1 (fun t ht => by rw [(al t (by omega)).2]; exact (al t (by omega)).1)]
      · have J := E_inForce E1 h6 (by rw [f1]; exact hf)
        rw [f1] at J
        delta F_X12_ahead F_X12_ahead_b0
        rw [e_gO X1.1, Option.bind_some, E_isHeirX X1, Option.bind_some, if_pos kH, if_neg (by decide), E_in (a := 0) (b := 200) rfl rfl, Option.bind_some, if_pos c, if_neg (by decide)]
        refine Ok_b (E_q_keeps X1 J) (fun M4 z => ?_)
        exact E_ahead_L28 V Q.1 a1 (by omega) hN (by omega) g_fuel 0 (l3 := 0) z.1 rfl (Nat.zero_le _) (n_fu (by omega))
    · refine lw9_qn (w := -1) ?_ (fun M1 X1 => ?_)
      · delta F_X11_ahead F_X11_ahead_b0 F_X11_ahead_b19
        rw [t_gO k2, Option.bind_some, C_isHeirX k2 C.1.1.1 X.1.1, Option.bind_some, if_pos kH, if_neg (by decide)]
        by_cases d : l2 < 0
        · rw [if_pos d]
        · have := i_nlt d
          rw [if_neg d, if_neg (fun z => by have := i_le z; omega)]
      · delta F_X12_ahead F_X12_ahead_b0 F_X12_ahead_b20
        rw [e_gO X1.1, Option.bind_some, E_isHeirX X1, Option.bind_some, if_pos kH, if_neg (by decide), E_in (a := 0) (b := 200) rfl rfl, Option.bind_some, if_neg c, if_pos rfl]
  · refine lw9_qn (w := -1) ?_ (fun M1 X1 => ?_)
    · delta F_X11_ahead F_X11_ahead_b0 F_X11_ahead_b19
      rw [t_gO k2, Option.bind_some, C_isHeirX k2 C.1.1.1 X.1.1, Option.bind_some, if_neg kH, if_pos rfl]
    · delta F_X12_ahead F_X12_ahead_b0 F_X12_ahead_b20
      rw [e_gO X1.1, Option.bind_some, E_isHeirX X1, Option.bind_some, if_neg kH, if_pos rfl]
-- 7zai.fields
/-! FIELDS and LONGEST -/
theorem k_Xsk {M : gM} {s e t : Nat} {σ : Nat → Int32} (X : k_X M s e σ) (ht : t < hs_n σ) : M.2.1 (s + 4) t = σ (13 + 4 * t) ∧ M.2.1 (e + 3) t = σ (12 + 4 * t) := by
  have nn := s_Vn X.2.2
  exact ⟨X.2.1.2.2.2 t (by omega), (X.2.1.1.2.2.1 t (by omega)).2⟩
def s_fi (σ : Nat → Int32) : Nat → Int32
  | 0 => 0
  | t + 1 => if (σ (13 + 4 * t)).toInt < 0 then s_fi σ t + σ (12 + 4 * t) else s_fi σ t
theorem fi_congr {σ σ' : Nat → Int32} : ∀ n, (∀ t, t < n → σ' (13 + 4 * t) = σ (13 + 4 * t) ∧ σ' (12 + 4 * t) = σ (12 + 4 * t)) → s_fi σ' n = s_fi σ n := by
  intro n
  induction n with
  | zero => intro _; rfl
  | succ n ih =>
    intro h
    unfold s_fi
    rw [ih (fun t ht => h t (by omega)), (h n (by omega)).1, (h n (by omega)).2]
theorem C_fields_L32 {M0 M : gM} {e : Nat} {r : s_Ru} {ρ σ : Nat → Int32} (B : q_B M0 e r ρ) (Q : q_C M0 M e σ) : ∀ (n t : Nat) {l2 l3 : Int32}, l2 = s_fi σ t → l3.toInt = (t : Int) → t ≤ hs_n σ → hs_n σ - t < n → Ok (F_X11_fields_L32 n (some 2) l2 l3 M) (fun q => q.1 = s_fi σ (hs_n σ) ∧ q_F M0 q.2) := by
  obtain ⟨⟨G, r11⟩, _⟩ := q_G B Q.1
  have g2 := G_k2 G
  obtain ⟨⟨ke, ⟨e6, e7⟩, _⟩, ⟨⟨ks, _⟩, k3, k4⟩, _, r2, r3⟩ := k_XE Q.2
  have R2 : g_k M (e + 3) = (20, 7) ∧ M.2.2.2 e 2 = some (e + 3) := k_XR (i := 2) Q.2 (by decide)
  have nn := s_Vn Q.2.2.2
  intro n
  induction n with
  | zero => intro t l2 l3 _ _ _ _; omega
  | succ n ih =>
    intro t l2 l3 h2 h3 ht hn
    show Ok (F_X11_fields_b32 (F_X11_fields_L32 n) (some 2) l2 l3 M) _
    delta F_X11_fields_b32
    refine x_gR g2 r11 (x_gI ke e6 ?_)
    by_cases c : σ 1 ≤ l3
    · have := i_le c
      have et : t = hs_n σ := by omega
      subst et
      exact Ok_t c (Ok_s ⟨h2, Q.1⟩)
    · have := i_nle c
      have ft := k_Xsk Q.2 (t := t) (by omega)
      have ss := s_struck (t := t) Q.2.2.2 (by omega)
      refine Ok_e c (x_gR g2 (G_r6 G) (x_gR ks r3 (x_aI k4 h3 (by omega) ft.1 ?_)))
      delta F_X11_fields_b68
      refine Ok_i (fun d => ?_) (fun d => ?_)
      · refine x_gR g2 r11 (x_gR ke R2.2 (x_aI R2.1 h3 (by omega) ft.2 ?_))
        refine ih (t + 1) ?_ (i_nx h3 (by omega)) (by omega) (by omega)
        show _ = s_fi σ (t + 1)
        unfold s_fi
        rw [if_pos (ss.mp d), h2]
      · refine ih (t + 1) ?_ (i_nx h3 (by omega)) (by omega) (by omega)
        show _ = s_fi σ (t + 1)
        unfold s_fi
        rw [if_neg (mt ss.mpr d), h2]
theorem E_fields_L47 {r : s_Ru} {ρ σ : Nat → Int32} {M : gM} (V : s_V ρ) (Q : e_Q r ρ M σ) : ∀ (n t : Nat) {l2 l3 : Int32}, l2 = s_fi σ t → l3.toInt = (t : Int) → t ≤ hs_n σ → hs_n σ - t < n → Ok (F_X12_fields_L47 n (some 175) l2 l3 M) (fun q => q.1 = s_fi σ (hs_n σ) ∧ ∀ j, j < 157 → q.2.2.1 185 j = ρ j) := by
  have X := Q.1.1
  have nn := s_Vn X.2.2
  have z0 : (0 : Int32).toInt = 0 := rfl
  intro n
  induction n with
  | zero => intro t l2 l3 _ _ _ _; omega
  | succ n ih =>
    intro t l2 l3 h2 h3 ht hn
    show Ok (F_X12_fields_b47 (F_X12_fields_L47 n) (some 175) l2 l3 M) _
    delta F_X12_fields_b47 F_X12_fields_b77
    rw [e_sd X (k := 1) rfl (by decide)]
    by_cases c : σ 1 ≤ l3
    · have := i_le c
      have et : t = hs_n σ := by omega
      subst et
      refine Ok_t c (x_eq (e_gO X.1) (Ok_b (E_q_lays V Q) (fun M3 z => ?_)))
      exact Ok_s ⟨h2, q_done z.1⟩
    · have := i_nle c
      refine Ok_e c (x_eq (e_gO X.1) (x_eq (E_thingOf X h3 (w := 3) rfl (by omega) (by decide)) ?_))
      rw [show 10 + 4 * t + 3 = 13 + 4 * t by omega]
      refine Ok_i (fun d => ?_) (fun d => ?_)
      · have := i_le d
        refine ih (t + 1) ?_ (i_nx h3 (by omega)) (by omega) (by omega)
        show _ = s_fi σ (t + 1)
        unfold s_fi
        rw [if_neg (by omega), h2, Int32.add_zero]
      · have := i_nle d
        refine x_eq (E_thingOf X h3 (w := 2) rfl (by omega) (by decide)) ?_
        refine ih (t + 1) ?_ (i_nx h3 (by omega)) (by omega) (by omega)
        show _ = s_fi σ (t + 1)
        unfold s_fi
        rw [if_pos (by omega), h2, show 10 + 4 * t + 2 = 12 + 4 * t by omega]
theorem E_fields_L29 {r : s_Ru} {ρ : Nat → Int32} {N : Int32} {nn : Nat} (V : s_V ρ) (hy : 0 ≤ (ρ 4).toInt ∧ (ρ 4).toInt ≤ 999) (hN : N.toInt = (nn : Int)) (h2 : nn ≤ 200) : ∀ (n k : Nat) {l3 : Int32} {M : gM}, e_Q r ρ M (s_ny r ρ k) → l3.toInt = (k : Int) → k ≤ nn → nn - k < n → Ok (F_X12_fields_L29 n (some 175) N (0 : Int32) l3 M) (fun q => q.1 = s_fi (s_ny r ρ nn) (hs_n ρ) ∧ ∀ j, j < 157 → q.2.2.1 185 j = ρ j) := by
  intro n
  induction n with
  | zero => intro k l3 M _ _ _ _; omega
  | succ n ih =>
    intro k l3 M Q hl hk hn
    have V1 := ny_i (r := r) V hy k (by omega)
    show Ok (F_X12_fields_b29 (F_X12_fields_L29 n) (some 175) N (0 : Int32) l3 M) _
    delta F_X12_fields_b29
    by_cases c : N ≤ l3
    · have := i_le c
      have e : k = nn := by omega
      subst e
      have nn1 := s_Vn V1.1.1
      have := E_fields_L47 V Q g_fuel 0 (l2 := 0) (l3 := 0) rfl rfl (Nat.zero_le _) (n_fu (by omega))
      rw [(ny_nm (r := r) V hy (k := k) (by omega)).1] at this
      exact Ok_t c this
    · have := i_nle c
      refine Ok_e c (x_eq (e_gO Q.1.1.1) (Ok_b (E_q_year Q (by omega)) (fun q z => ?_)))
      obtain ⟨v, M6⟩ := q
      exact ih (k + 1) z.2 (i_nx hl (by omega)) (by omega) (by omega)
theorem lw9_fields {L : Nat} {M : gM} {l1 : Int32} (R : lw9 L M) : lw_42 L M (F_X11_fields (some 2) l1 M) (F_X12_fields (some 175) l1) := by
  have R8 := R.1
  have G := R8.2
  have hl := lw8_len R8.1.1.1
  refine lw9_qry R (S_X11_fields R8.1.1.1.1.1.1 R8.1.1.1.2.1.1.1) (fun M1 H W => S_X12_fields H W) (by decide) (by decide) (by decide) (by decide) (fun e σ nx sz P I rc Rr C h6 hf => ?_)
  have X := C.1.1.2
  have k2 := G_k2 G
  have V := X.1.1.2.2
  have Q := X.2.2
  have z0 : (0 : Int32).toInt = 0 := rfl
  have z200 : (200 : Int32).toInt = 200 := rfl
  have B := q_B_of G hl C h6 hf
  have nn := s_Vn V
  have ke : g_k M e = (1, 0) := X.1.1.1.1.1
  have t5 := X.2.1
  by_cases c : 0 ≤ l1.toInt ∧ l1.toInt ≤ 200
  · by_cases kH : 0 < (σ 0).toInt
    · rw [if_pos kH] at t5
      obtain ⟨N, hN⟩ : ∃ N : Nat, l1.toInt = (N : Int) := ⟨l1.toInt.toNat, by omega⟩
      refine ⟨s_fi (s_ny (s_ru Rr (M.2.1 2 13)) σ N) (hs_n σ), ?_, fun M1 X1 E1 f1 _ => ?_⟩
      · delta F_X11_fields F_X11_fields_b0
        rw [if_neg (fun z => by have := i_lt z; omega), if_neg (fun z => by have := i_lt z; omega)]
        refine x_gR k2 C.1.1.1 (x_gI ke t5 ?_)
        rw [if_neg (by decide)]
        refine x_gO k2 (Ok_b (C_lookAhead B q_F_r V Q.1 hN (by omega)) (fun M3 z => ?_))
        obtain ⟨k, hk, q, d⟩ := z
        have nm := ny_nm (r := s_ru Rr (M.2.1 2 13)) V Q.1 (k := k) (by omega)
        have nn1 := s_Vn q.2.2.2
        refine Ok_w (C_fields_L32 B q g_fuel 0 (l2 := 0) (l3 := 0) rfl rfl (Nat.zero_le _) (n_fu (by omega))) (fun x z => ⟨?_, q_F_w z.2⟩)
        rw [z.1, nm.1]
        rcases d with d | d
        · rw [d]
        · have al := ny_all (r := s_ru Rr (M.2.1 2 13)) V Q.1 hk (by omega) d
          exact fi_congr _ (fun t ht => ⟨(al t ht).2.symm, by rw [ny_38 V Q.1 (by omega) (by omega) (fun k _ => by omega) k (by omega), ny_38 V Q.1 (by omega) (by omega) (fun k _ => by omega) N (by omega)]⟩)
      · have J := E_inForce E1 h6 (by rw [f1]; exact hf)
        rw [f1] at J
        delta F_X12_fields F_X12_fields_b0
        rw [e_gO X1.1, Option.bind_some, E_isHouseX X1, Option.bind_some, if_pos kH, if_neg (by decide), E_in (a := 0) (b := 200) rfl rfl, Option.bind_some, if_pos c, if_neg (by decide)]
        refine Ok_b (E_q_keeps X1 J) (fun M4 z => ?_)
        exact E_fields_L29 V Q.1 hN (by omega) g_fuel 0 (l3 := 0) z.1 rfl (Nat.zero_le _) (n_fu (by omega))
    · rw [if_neg kH] at t5
      refine lw9_qn (w := -1) ?_ (fun M1 X1 => ?_)
      · delta F_X11_fields F_X11_fields_b0 F_X11_fields_b21
        rw [if_neg (fun z => by have := i_lt z; omega), if_neg (fun z => by have := i_lt z; omega), t_gR k2 C.1.1.1, Option.bind_some, t_gI ke, Option.bind_some, t5, if_pos rfl]
      · delta F_X12_fields F_X12_fields_b0 F_X12_fields_b19
        rw [e_gO X1.1, Option.bind_some, E_isHouseX X1, Option.bind_some, if_neg kH, if_pos rfl]
  · refine lw9_qn (w := -1) ?_ (fun M1 X1 => ?_)
    · delta F_X11_fields F_X11_fields_b0 F_X11_fields_b21
      by_cases d : l1 < 0
      · rw [if_pos d]
      · have := i_nlt d
        rw [if_neg d, if_pos (Int32.lt_iff_toInt_lt.mpr (by omega))]
    · delta F_X12_fields F_X12_fields_b0 F_X12_fields_b19
      rw [e_gO X1.1, Option.bind_some, E_isHouseX X1, Option.bind_some]
      by_cases kH : 0 < (σ 0).toInt
      · rw [if_pos kH, if_neg (by decide), E_in (a := 0) (b := 200) rfl rfl, Option.bind_some, if_neg c, if_pos rfl]
      · rw [if_neg kH, if_pos rfl]
/-! LONGEST -/
def s_lg (σ : Nat → Int32) (t : Nat) : Int := if (σ (13 + 4 * t)).toInt < 0 then 100000 else (σ (13 + 4 * t)).toInt
def s_bl (σ : Nat → Int32) : Nat → Nat
  | 0 => 0
  | t + 1 => if s_lg σ (s_bl σ t) < s_lg σ (t + 1) then t + 1 else s_bl σ t
theorem bl_le {σ : Nat → Int32} : ∀ k, s_bl σ k ≤ k := by
  intro k
  induction k with
  | zero => exact Nat.le_refl _
  | succ k ih =>
    unfold s_bl
    split
    · exact Nat.le_refl _
    · omega
theorem lg_congr {σ σ' : Nat → Int32} {t : Nat} (h : σ' (13 + 4 * t) = σ (13 + 4 * t)) : s_lg σ' t = s_lg σ t := by unfold s_lg; rw [h]
theorem bl_congr {σ σ' : Nat → Int32} : ∀ k, (∀ t, t ≤ k → σ' (13 + 4 * t) = σ (13 + 4 * t)) → s_bl σ' k = s_bl σ k := by
  intro k
  induction k with
  | zero => intro _; rfl
  | succ k ih =>
    intro h
    have e := ih (fun t ht => h t (by omega))
    have b := bl_le (σ := σ) k
    show (if s_lg σ' (s_bl σ' k) < s_lg σ' (k + 1) then k + 1 else s_bl σ' k) = if s_lg σ (s_bl σ k) < s_lg σ (k + 1) then k + 1 else s_bl σ k
    rw [e, lg_congr (h _ (Nat.le_refl _)), lg_congr (h (s_bl σ k) (by omega))]
theorem C_lasts {M : gM} {s e t : Nat} {σ : Nat → Int32} {l : Int32} (X : k_X M s e σ) (h1 : l.toInt = (t : Int)) (ht : t < hs_n σ) : F_X8_lasts (some s) l M = some (if (σ (13 + 4 * t)).toInt < 0 then 1000000 else σ (13 + 4 * t)) := by
  obtain ⟨_, ⟨⟨ks, _⟩, k3, k4⟩, _, r2, r3⟩ := k_XE X
  have nn := s_Vn X.2.2
  have ss := s_struck (t := t) X.2.2 (by omega)
  have ft := k_Xsk X ht
  delta F_X8_lasts F_X8_lasts_b0
  rw [t_gR ks r3, Option.bind_some, t_aI k4 (by omega) (by omega), Option.bind_some, i_cl h1, ft.1]
  by_cases c : (σ (13 + 4 * t)).toInt < 0
  · rw [if_pos (ss.mpr c), if_pos c]
  · rw [if_neg (mt ss.mp c), if_neg c, Option.bind_some, t_aI k4 (by omega) (by omega), Option.bind_some, i_cl h1, ft.1]
theorem C_longest_L36 {M0 M : gM} {e : Nat} {r : s_Ru} {ρ σ : Nat → Int32} (B : q_B M0 e r ρ) (Q : q_C M0 M e σ) (hb : ∀ t, t < hs_n σ → (σ (13 + 4 * t)).toInt ≤ 2000) : ∀ (n t : Nat) {l1 l2 : Int32}, l1.toInt = (s_bl σ t : Int) → l2.toInt = ((t + 1 : Nat) : Int) → t + 1 ≤ hs_n σ → hs_n σ - (t + 1) < n → Ok (F_X11_longest_L36 n (some 2) l1 l2 M) (fun q => q.1 = Int32.ofNat (s_bl σ (hs_n σ - 1)) ∧ q_F M0 q.2) := by
  obtain ⟨⟨G, r11⟩, _⟩ := q_G B Q.1
  have g2 := G_k2 G
  obtain ⟨⟨ke, ⟨e6, e7⟩, _⟩, ⟨⟨ks, _⟩, k3, k4⟩, _, r2, r3⟩ := k_XE Q.2
  have nn := s_Vn Q.2.2.2
  have zM : (1000000 : Int32).toInt = 1000000 := rfl
  intro n
  induction n with
  | zero => intro t l1 l2 _ _ _ _; omega
  | succ n ih =>
    intro t l1 l2 h1 h2 ht hn
    have bt := bl_le (σ := σ) t
    show Ok (F_X11_longest_b36 (F_X11_longest_L36 n) (some 2) l1 l2 M) _
    delta F_X11_longest_b36
    refine x_gR g2 r11 (x_gI ke e6 ?_)
    by_cases c : σ 1 ≤ l2
    · have := i_le c
      have et : hs_n σ - 1 = t := by omega
      rw [et]
      exact Ok_t c (Ok_s ⟨i_of h1 (by omega), Q.1⟩)
    · have := i_nle c
      refine Ok_e c (x_gR g2 (G_r6 G) (x_gO ks (x_eq (C_lasts Q.2 h2 (by omega)) (x_gR g2 (G_r6 G) (x_gO ks (x_eq (C_lasts Q.2 h1 (by omega)) ?_))))))
      delta F_X11_longest_b68
      have b1 := hb (t + 1) (by omega)
      have b2 := hb (s_bl σ t) (by omega)
      have val : ∀ u, u < hs_n σ → (if (σ (13 + 4 * u)).toInt < 0 then (1000000 : Int32) else σ (13 + 4 * u)).toInt = if s_lg σ u = 100000 then 1000000 else s_lg σ u := by
        intro u hu
        have := hb u hu
        unfold s_lg
        by_cases d : (σ (13 + 4 * u)).toInt < 0
        · rw [if_pos d, if_pos d, if_pos rfl]; rfl
        · rw [if_neg d, if_neg d, if_neg (by omega)]
      have v1 := val (t + 1) (by omega)
      have v2 := val (s_bl σ t) (by omega)
      have lb : ∀ u, u < hs_n σ → s_lg σ u ≤ 100000 := by
        intro u hu
        have := hb u hu
        unfold s_lg
        split <;> omega
      have y1 := lb (t + 1) (by omega)
      have y2 := lb (s_bl σ t) (by omega)
      have lb2 : ∀ u, u < hs_n σ → s_lg σ u = 100000 ∨ s_lg σ u ≤ 2000 := by
        intro u hu
        have := hb u hu
        unfold s_lg
        split <;> omega
      have w1 := lb2 (t + 1) (by omega)
      have w2 := lb2 (s_bl σ t) (by omega)
      refine Ok_i (fun d => ?_) (fun d => ?_)
      · have d := i_le d
        rw [v1, v2] at d
        refine ih (t + 1) ?_ (i_nx h2 (by omega)) (by omega) (by omega)
        show _ = ((if s_lg σ (s_bl σ t) < s_lg σ (t + 1) then t + 1 else s_bl σ t : Nat) : Int)
        rw [if_neg (by split at d <;> split at d <;> omega), h1]
      · have d := i_nle d
        rw [v1, v2] at d
        refine ih (t + 1) ?_ (i_nx h2 (by omega)) (by omega) (by omega)
        show _ = ((if s_lg σ (s_bl σ t) < s_lg σ (t + 1) then t + 1 else s_bl σ t : Nat) : Int)
        rw [if_pos (by split at d <;> split at d <;> omega), h2]
theorem E_longest_L40 {r : s_Ru} {ρ σ : Nat → Int32} {M : gM} (V : s_V ρ) (Q : e_Q r ρ M σ) (hb : ∀ t, t < hs_n σ → (σ (13 + 4 * t)).toInt ≤ 2000) : ∀ (n t : Nat) {l1 l2 l3 : Int32}, (t = 0 ∧ l1 = -2 ∨ ∃ u, t = u + 1 ∧ l1.toInt = (s_bl σ u : Int) ∧ l2.toInt = s_lg σ (s_bl σ u)) → l3.toInt = (t : Int) → t ≤ hs_n σ → hs_n σ - t < n → Ok (F_X12_longest_L40 n (some 175) l1 l2 l3 M) (fun q => q.1 = (if hs_n σ = 0 then -2 else Int32.ofNat (s_bl σ (hs_n σ - 1))) ∧ ∀ j, j < 157 → q.2.2.1 185 j = ρ j) := by
  have X := Q.1.1
  have nn := s_Vn X.2.2
  have z0 : (0 : Int32).toInt = 0 := rfl
  have z2 : (-2 : Int32).toInt = -2 := rfl
  have zM : (100000 : Int32).toInt = 100000 := rfl
  intro n
  induction n with
  | zero => intro t l1 l2 l3 _ _ _ _; omega
  | succ n ih =>
    intro t l1 l2 l3 h1 h3 ht hn
    show Ok (F_X12_longest_b40 (F_X12_longest_L40 n) (some 175) l1 l2 l3 M) _
    delta F_X12_longest_b40
    rw [e_sd X (k := 1) rfl (by decide)]
    by_cases c : σ 1 ≤ l3
    · have := i_le c
      have et : t = hs_n σ := by omega
      refine Ok_t c (x_eq (e_gO X.1) (Ok_b (E_q_lays V Q) (fun M3 z => ?_)))
      refine Ok_s ⟨?_, q_done z.1⟩
      show l1 = _
      rcases h1 with ⟨a, b⟩ | ⟨u, a, b, _⟩
      · rw [if_pos (by omega), b]
      · have bu := bl_le (σ := σ) u
        rw [if_neg (by omega), show hs_n σ - 1 = u by omega]
        exact i_of b (by omega)
    · have := i_nle c
      have go : ∀ (s0 : Int32), s0.toInt = s_lg σ t → Ok (F_X12_longest_b71 (F_X12_longest_L40 n) (some 175) l1 l2 l3 s0 M) (fun q => q.1 = (if hs_n σ = 0 then -2 else Int32.ofNat (s_bl σ (hs_n σ - 1))) ∧ ∀ j, j < 157 → q.2.2.1 185 j = ρ j) := by
        intro s0 hs
        delta F_X12_longest_b71 F_X12_longest_b86 F_X12_longest_b91
        rcases h1 with ⟨a, b⟩ | ⟨u, a, b, b2⟩
        · subst a
          refine Ok_t (Int32.lt_iff_toInt_lt.mpr (by rw [b]; decide)) ?_
          exact ih 1 (Or.inr ⟨0, rfl, h3, hs⟩) (i_nx h3 (by omega)) (by omega) (by omega)
        · subst a
          have bu := bl_le (σ := σ) u
          refine Ok_e (fun z => by have := i_lt z; omega) ?_
          refine Ok_i (fun d => ?_) (fun d => ?_)
          · have := i_lt d
            have e : s_bl σ (u + 1) = u + 1 := by
              show (if s_lg σ (s_bl σ u) < s_lg σ (u + 1) then u + 1 else s_bl σ u) = u + 1
              rw [if_pos (by omega)]
            exact ih (u + 1 + 1) (Or.inr ⟨u + 1, rfl, by rw [e]; exact h3, by rw [e]; exact hs⟩) (i_nx h3 (by omega)) (by omega) (by omega)
          · have := i_nlt d
            have e : s_bl σ (u + 1) = s_bl σ u := by
              show (if s_lg σ (s_bl σ u) < s_lg σ (u + 1) then u + 1 else s_bl σ u) = s_bl σ u
              rw [if_neg (by omega)]
            exact ih (u + 1 + 1) (Or.inr ⟨u + 1, rfl, by rw [e]; exact b, by rw [e]; exact b2⟩) (i_nx h3 (by omega)) (by omega) (by omega)
      refine Ok_e c (x_eq (e_gO X.1) (x_eq (E_thingOf X h3 (w := 3) rfl (by omega) (by decide)) ?_))
      rw [show 10 + 4 * t + 3 = 13 + 4 * t by omega]
      refine Ok_i (fun d => ?_) (fun d => ?_)
      · have := i_le d
        refine x_eq (E_thingOf X h3 (w := 3) rfl (by omega) (by decide)) (go _ ?_)
        rw [show 10 + 4 * t + 3 = 13 + 4 * t by omega]
        unfold s_lg
        rw [if_neg (by omega)]
      · have := i_nle d
        refine go _ ?_
        unfold s_lg
        rw [if_pos (by omega)]
        rfl
theorem E_longest_L20 {r : s_Ru} {ρ : Nat → Int32} (V : s_V ρ) (hy : 0 ≤ (ρ 4).toInt ∧ (ρ 4).toInt ≤ 999) (Qd : s_Qd ρ) : ∀ (n k : Nat) {l3 : Int32} {M : gM}, e_Q r ρ M (s_ny r ρ k) → l3.toInt = (k : Int) → k ≤ 200 → 200 - k < n → Ok (F_X12_longest_L20 n (some 175) (-2 : Int32) (0 : Int32) l3 M) (fun q => q.1 = (if hs_n ρ = 0 then -2 else Int32.ofNat (s_bl (s_ny r ρ 200) (hs_n ρ - 1))) ∧ ∀ j, j < 157 → q.2.2.1 185 j = ρ j) := by
  have z200 : (200 : Int32).toInt = 200 := rfl
  intro n
  induction n with
  | zero => intro k l3 M _ _ _ _; omega
  | succ n ih =>
    intro k l3 M Q hl hk hn
    have V1 := ny_i (r := r) V hy k (by omega)
    show Ok (F_X12_longest_b20 (F_X12_longest_L20 n) (some 175) (-2 : Int32) (0 : Int32) l3 M) _
    delta F_X12_longest_b20
    by_cases c : (200 : Int32) ≤ l3
    · have := i_le c
      have e : k = 200 := by omega
      subst e
      have nn1 := s_Vn V1.1.1
      have nm := (ny_nm (r := r) V hy (k := 200) (by omega)).1
      have := E_longest_L40 V Q (fun t ht => by have := ny_sb (r := r) V hy Qd (t := t) (by omega) 200 (by omega); omega) g_fuel 0 (l1 := -2) (l2 := 0) (l3 := 0) (Or.inl ⟨rfl, rfl⟩) rfl (Nat.zero_le _) (n_fu (by omega))
      rw [nm] at this
      exact Ok_t c this
    · have := i_nle c
      refine Ok_e c (x_eq (e_gO Q.1.1.1) (Ok_b (E_q_year Q (by omega)) (fun q z => ?_)))
      obtain ⟨v, M6⟩ := q
      exact ih (k + 1) z.2 (i_nx hl (by omega)) (by omega) (by omega)
theorem lw9_longest {L : Nat} {M : gM} (R : lw9 L M) : lw_42 L M (F_X11_longest (some 2) M) (F_X12_longest (some 175)) := by
  have R8 := R.1
  have G := R8.2
  have hl := lw8_len R8.1.1.1
  refine lw9_qry R (S_X11_longest R8.1.1.1.1.1.1 R8.1.1.1.2.1.1.1) (fun M1 H W => S_X12_longest H W) (by decide) (by decide) (by decide) (by decide) (fun e σ nx sz P I rc Rr C h6 hf => ?_)
  have X := C.1.1.2
  have k2 := G_k2 G
  have V := X.1.1.2.2
  have Q := X.2.2
  have z0 : (0 : Int32).toInt = 0 := rfl
  have B := q_B_of G hl C h6 hf
  have nn := s_Vn V
  have ke : g_k M e = (1, 0) := X.1.1.1.1.1
  have e6 : M.2.1 e 6 = σ 1 := X.1.1.2.1.1.1.1.1
  have t5 := X.2.1
  by_cases kH : 0 < (σ 0).toInt
  · rw [if_pos kH] at t5
    refine ⟨(if hs_n σ = 0 then -2 else Int32.ofNat (s_bl (s_ny (s_ru Rr (M.2.1 2 13)) σ 200) (hs_n σ - 1))), ?_, fun M1 X1 E1 f1 _ => ?_⟩
    · delta F_X11_longest F_X11_longest_b0
      refine x_gR k2 C.1.1.1 (x_gI ke t5 ?_)
      rw [if_neg (by decide)]
      refine x_gR k2 C.1.1.1 (x_gI ke e6 ?_)
      by_cases n0 : σ 1 = 0
      · have : (σ 1).toInt = 0 := by rw [n0]; rfl
        rw [if_pos n0, if_pos (by omega)]
        exact Ok_s ⟨rfl, w_F_r⟩
      · have := i_ne n0
        rw [if_neg n0, if_neg (by omega)]
        refine x_gO k2 (Ok_b (C_lookAhead (nn := 200) B q_F_r V Q.1 rfl (by omega)) (fun M3 z => ?_))
        obtain ⟨k, hk, q, d⟩ := z
        have nm := ny_nm (r := s_ru Rr (M.2.1 2 13)) V Q.1 (k := k) (by omega)
        have nn1 := s_Vn q.2.2.2
        refine Ok_w (C_longest_L36 B q (fun t ht => by have := ny_sb (r := s_ru Rr (M.2.1 2 13)) V Q.1 Q.2.2.2 (t := t) (by omega) k (by omega); omega) g_fuel 0 (l1 := 0) (l2 := 1) rfl rfl (by omega) (n_fu (by omega))) (fun x z => ⟨?_, q_F_w z.2⟩)
        rw [z.1, nm.1]
        rcases d with d | d
        · rw [d]
        · have al := ny_all (r := s_ru Rr (M.2.1 2 13)) V Q.1 hk (by omega) d
          rw [bl_congr _ (fun t ht => (al t (by omega)).2)]
    · have J := E_inForce E1 h6 (by rw [f1]; exact hf)
      rw [f1] at J
      delta F_X12_longest F_X12_longest_b0
      rw [e_gO X1.1, Option.bind_some, E_isHouseX X1, Option.bind_some, if_pos kH, if_neg (by decide)]
      refine Ok_b (E_q_keeps X1 J) (fun M4 z => ?_)
      exact E_longest_L20 V Q.1 Q.2.2.2 g_fuel 0 (l3 := 0) z.1 rfl (Nat.zero_le _) (n_fu (by omega))
  · rw [if_neg kH] at t5
    refine lw9_qn (w := -1) ?_ (fun M1 X1 => ?_)
    · delta F_X11_longest F_X11_longest_b0
      rw [t_gR k2 C.1.1.1, Option.bind_some, t_gI ke, Option.bind_some, t5, if_pos rfl]
    · delta F_X12_longest F_X12_longest_b0
      rw [e_gO X1.1, Option.bind_some, E_isHouseX X1, Option.bind_some, if_neg kH, if_pos rfl]
-- 7zaj.strike
/-! STRIKE and COST -/
theorem i_nm {x : Int32} (h : 0 ≤ x.toInt) : ¬ x = -1 := fun z => by rw [z] at h; exact absurd h (by decide)
noncomputable def s_sl (r : s_Ru) (t : Nat) : Nat → (Nat → Int32) → Int32
  | 0, σ => σ (13 + 4 * t)
  | n + 1, σ => if (σ (13 + 4 * t)).toInt < 0 then s_sl r t n (s_yr r σ).2 else σ (13 + 4 * t)
theorem sl_r {r : s_Ru} {t : Nat} : ∀ (n : Nat) {σ : Nat → Int32}, s_V σ → t < hs_n σ → n ≤ 200 → 0 ≤ (σ 4).toInt → (σ 4).toInt ≤ 2000 - n → -1 ≤ (s_sl r t n σ).toInt := by
  intro n
  induction n with
  | zero =>
    intro σ V ht _ _ _
    have nn := s_Vn V
    exact (V.2.2.1 t (by omega)).2.2
  | succ n ih =>
    intro σ V ht hn h0 h1
    have nn := s_Vn V
    have y4 := yr_4 (r := r) V
    have a4 := i_addc (x := σ 4) (c := (1 : Int32)) (n := 1) rfl (by omega) (by omega)
    unfold s_sl
    split
    · exact ih (yr_Vx V h0) (by rw [(yr_nm V).1]; exact ht) (by omega) (by rw [y4]; omega) (by rw [y4]; omega)
    · exact (V.2.2.1 t (by omega)).2.2
theorem C_strike_L2 {M0 : gM} {e : Nat} {r : s_Ru} {ρ : Nat → Int32} {l1 : Int32} {t : Nat} (B : q_B M0 e r ρ) (h1 : l1.toInt = (t : Int)) : ∀ (n k : Nat) {l2 : Int32} {M : gM} {σ : Nat → Int32}, q_C M0 M e σ → t < hs_n σ → 0 ≤ (σ 4).toInt → (σ 4).toInt ≤ 1000 + k → l2.toInt = (k : Int) → k ≤ 200 → 200 - k < n → Ok (F_X11_strikeLater_L2 n (some 2) l1 l2 M) (fun q => q.1 = s_sl r t (200 - k) σ ∧ q_F M0 q.2) := by
  have z200 : (200 : Int32).toInt = 200 := rfl
  intro n
  induction n with
  | zero => intro k l2 M σ _ _ _ _ _ _ _; omega
  | succ n ih =>
    intro k l2 M σ Q ht h0 hy hl hk hn
    obtain ⟨⟨G, r11⟩, _⟩ := q_G B Q.1
    have g2 := G_k2 G
    obtain ⟨_, ⟨⟨ks, _⟩, k3, k4⟩, _, r2, r3⟩ := k_XE Q.2
    have V := Q.2.2.2
    have nn := s_Vn V
    have ft := k_Xsk Q.2 ht
    have ss := s_struck (t := t) V (by omega)
    have out : Ok (F_X11_strikeLater_b48 (some 2) l1 M) (fun q => q.1 = σ (13 + 4 * t) ∧ q_F M0 q.2) := by
      delta F_X11_strikeLater_b48
      exact x_gR g2 (G_r6 G) (x_gR ks r3 (x_aI k4 h1 (by omega) ft.1 (Ok_s ⟨rfl, Q.1⟩)))
    show Ok (F_X11_strikeLater_b2 (F_X11_strikeLater_L2 n) (some 2) l1 l2 M) _
    delta F_X11_strikeLater_b2
    by_cases c : (200 : Int32) ≤ l2
    · have := i_le c
      have e : 200 - k = 0 := by omega
      rw [e]
      exact Ok_t c out
    · have := i_nle c
      have e : 200 - k = (200 - (k + 1)) + 1 := by omega
      rw [e]
      refine Ok_e c (x_gR g2 (G_r6 G) (x_gR ks r3 (x_aI k4 h1 (by omega) ft.1 ?_)))
      refine Ok_i (fun d => ?_) (fun d => ?_)
      · refine x_gR g2 (G_r4 G) (x_gR g2 r11 (x_gR g2 (G_r6 G) (x_gO g2 ?_)))
        refine Ok_b (C_q_rule B Q.1) (fun rl J => ?_)
        refine x_gO (G_k4 G) (Ok_b (C_q_year B Q h0 J) (fun q z => ?_))
        obtain ⟨v, M11⟩ := q
        have y4 := yr_4 (r := r) V
        have a4 := i_addc (x := σ 4) (c := (1 : Int32)) (n := 1) rfl (by omega) (by omega)
        have := ih (k + 1) z (by rw [(yr_nm V).1]; exact ht) (by rw [y4]; omega) (by rw [y4]; omega) (i_nx hl (by omega)) (by omega) (by omega)
        show Ok _ (fun q : Int32 × gM => q.1 = (if (σ (13 + 4 * t)).toInt < 0 then s_sl r t (200 - (k + 1)) (s_yr r σ).2 else σ (13 + 4 * t)) ∧ q_F M0 q.2)
        rw [if_pos (ss.mp d)]
        exact this
      · show Ok _ (fun q : Int32 × gM => q.1 = (if (σ (13 + 4 * t)).toInt < 0 then s_sl r t (200 - (k + 1)) (s_yr r σ).2 else σ (13 + 4 * t)) ∧ q_F M0 q.2)
        rw [if_neg (mt ss.mpr d)]
        exact out
theorem E_strike_L2 {r : s_Ru} {ρ : Nat → Int32} {l1 : Int32} {t : Nat} (Vρ : s_V ρ) (h1 : l1.toInt = (t : Int)) : ∀ (n k : Nat) {l2 : Int32} {M : gM} {σ : Nat → Int32}, e_Q r ρ M σ → t < hs_n σ → 0 ≤ (σ 4).toInt → (σ 4).toInt ≤ 1000 + k → l2.toInt = (k : Int) → k ≤ 200 → 200 - k < n → Ok (F_X12_strikeOf_L2 n (some 175) l1 l2 M) (fun q => q.1 = s_sl r t (200 - k) σ ∧ e_Q r ρ q.2 ρ) := by
  have z200 : (200 : Int32).toInt = 200 := rfl
  have z0 : (0 : Int32).toInt = 0 := rfl
  intro n
  induction n with
  | zero => intro k l2 M σ _ _ _ _ _ _ _; omega
  | succ n ih =>
    intro k l2 M σ Q ht h0 hy hl hk hn
    have X := Q.1.1
    have V := X.2.2
    have nn := s_Vn V
    have tv := E_thingOf X h1 (l2 := 3) (w := 3) rfl (by omega) (by decide)
    rw [show 10 + 4 * t + 3 = 13 + 4 * t by omega] at tv
    have out : Ok (F_X12_strikeOf_b29 (some 175) l1 M) (fun q => q.1 = σ (13 + 4 * t) ∧ e_Q r ρ q.2 ρ) := by
      delta F_X12_strikeOf_b29
      exact x_eq (e_gO X.1) (x_eq tv (Ok_b (E_q_lays Vρ Q) (fun M3 z => Ok_s ⟨rfl, z.1⟩)))
    show Ok (F_X12_strikeOf_b2 (F_X12_strikeOf_L2 n) (some 175) l1 l2 M) _
    delta F_X12_strikeOf_b2
    by_cases c : (200 : Int32) ≤ l2
    · have := i_le c
      have e : 200 - k = 0 := by omega
      rw [e]
      exact Ok_t c out
    · have := i_nle c
      have e : 200 - k = (200 - (k + 1)) + 1 := by omega
      rw [e]
      refine Ok_e c (x_eq (e_gO X.1) (x_eq tv ?_))
      refine Ok_i (fun d => ?_) (fun d => ?_)
      · have d := i_le d
        show Ok _ (fun q : Int32 × gM => q.1 = (if (σ (13 + 4 * t)).toInt < 0 then s_sl r t (200 - (k + 1)) (s_yr r σ).2 else σ (13 + 4 * t)) ∧ e_Q r ρ q.2 ρ)
        rw [if_neg (by omega)]
        exact out
      · have d := i_nle d
        refine Ok_b (E_q_year Q h0) (fun q z => ?_)
        obtain ⟨v, M4⟩ := q
        have y4 := yr_4 (r := r) V
        have a4 := i_addc (x := σ 4) (c := (1 : Int32)) (n := 1) rfl (by omega) (by omega)
        have := ih (k + 1) z.2 (by rw [(yr_nm V).1]; exact ht) (by rw [y4]; omega) (by rw [y4]; omega) (i_nx hl (by omega)) (by omega) (by omega)
        show Ok _ (fun q : Int32 × gM => q.1 = (if (σ (13 + 4 * t)).toInt < 0 then s_sl r t (200 - (k + 1)) (s_yr r σ).2 else σ (13 + 4 * t)) ∧ e_Q r ρ q.2 ρ)
        rw [if_pos (by omega)]
        exact this
theorem C_strikeLater {M0 M : gM} {e : Nat} {r : s_Ru} {ρ σ : Nat → Int32} {l1 : Int32} {t : Nat} (B : q_B M0 e r ρ) (h1 : l1.toInt = (t : Int)) (Q : q_C M0 M e σ) (ht : t < hs_n σ) (hy : 0 ≤ (σ 4).toInt ∧ (σ 4).toInt ≤ 999) : Ok (F_X11_strikeLater (some 2) l1 M) (fun q => q.1 = s_sl r t 200 σ ∧ q_F M0 q.2) := by
  delta F_X11_strikeLater F_X11_strikeLater_b0
  exact C_strike_L2 B h1 g_fuel 0 (l2 := 0) Q ht hy.1 (by omega) rfl (Nat.zero_le _) (n_fu (by omega))
theorem E_strikeOf {r : s_Ru} {ρ σ : Nat → Int32} {M : gM} {l1 : Int32} {t : Nat} (Vρ : s_V ρ) (h1 : l1.toInt = (t : Int)) (Q : e_Q r ρ M σ) (ht : t < hs_n σ) (hy : 0 ≤ (σ 4).toInt ∧ (σ 4).toInt ≤ 999) : Ok (F_X12_strikeOf (some 175) l1 M) (fun q => q.1 = s_sl r t 200 σ ∧ e_Q r ρ q.2 ρ) := by
  delta F_X12_strikeOf F_X12_strikeOf_b0
  exact E_strike_L2 Vρ h1 g_fuel 0 (l2 := 0) Q ht hy.1 (by omega) rfl (Nat.zero_le _) (n_fu (by omega))
theorem lw9_strike {L : Nat} {M : gM} {l1 : Int32} (R : lw9 L M) : lw_42 L M (F_X11_strike (some 2) l1 M) (F_X12_strike (some 175) l1) := by
  have R8 := R.1
  have G := R8.2
  have hl := lw8_len R8.1.1.1
  refine lw9_qry R (S_X11_strike R8.1.1.1.1.1.1 R8.1.1.1.2.1.1.1) (fun M1 H W => S_X12_strike H W) (by decide) (by decide) (by decide) (by decide) (fun e σ nx sz P I rc Rr C h6 hf => ?_)
  have X := C.1.1.2
  have k2 := G_k2 G
  have V := X.1.1.2.2
  have Q := X.2.2
  have Qy := Q.1
  have z0 : (0 : Int32).toInt = 0 := rfl
  have zm : (-1 : Int32).toInt = -1 := rfl
  have B := q_B_of G hl C h6 hf
  have nn := s_Vn V
  have ks : g_k M 9 = (8, 0) := X.1.1.1.2.1.1
  by_cases kT : s_iT σ l1 = true
  · obtain ⟨a, a1, a2, a3, _⟩ := s_iT_n V kT
    have lr := sl_r (r := s_ru Rr (M.2.1 2 13)) (t := a) 200 V a2 (by omega) Q.1.1 (by omega)
    refine ⟨(if s_sl (s_ru Rr (M.2.1 2 13)) a 200 σ = -1 then -2 else s_sl (s_ru Rr (M.2.1 2 13)) a 200 σ), ?_, fun M1 X1 E1 f1 _ => ?_⟩
    · delta F_X11_strike F_X11_strike_b0
      refine x_gO k2 (x_eq (C_isThingX k2 C.1.1.1 X.1.1) ?_)
      rw [if_pos kT, if_neg (by decide)]
      refine x_gR k2 (G_r6 G) (x_gR k2 (G_r5 G) (x_gO (k_LS_of G (s := 14) (by decide)).1.1 ?_))
      refine Ok_b (C_q_copy B q_F_r) (fun M6 q => ?_)
      have G6 := (q_G B q.1).1.1
      refine x_gC (G_k2 G6) (Ok_b (C_strikeLater B a1 q a2 Q.1) (fun x z => ?_))
      obtain ⟨v, M9⟩ := x
      obtain ⟨z1, z2⟩ := z
      dsimp only at z1 z2 ⊢
      subst z1
      refine Ok_i (fun d => Ok_s ⟨?_, q_F_w z2⟩) (fun d => Ok_s ⟨?_, q_F_w z2⟩)
      · rw [if_pos d]
      · rw [if_neg d]
    · have J := E_inForce E1 h6 (by rw [f1]; exact hf)
      rw [f1] at J
      delta F_X12_strike F_X12_strike_b0
      rw [e_gO X1.1, Option.bind_some, E_isThingX X1, Option.bind_some, if_pos kT, if_neg (by decide)]
      refine Ok_b (E_q_keeps X1 J) (fun M3 z => ?_)
      rw [e_gC z.1.1.1.1, Option.bind_some]
      refine Ok_b (E_strikeOf V a1 z.1 a2 Q.1) (fun x z => ?_)
      obtain ⟨v, M6⟩ := x
      obtain ⟨z1, z2⟩ := z
      dsimp only at z1 z2 ⊢
      subst z1
      refine Ok_i (fun d => Ok_s ⟨?_, q_done z2⟩) (fun d => Ok_s ⟨?_, q_done z2⟩)
      · have := i_le d
        rw [if_neg (fun z => by rw [z] at this; omega)]
      · have := i_nle d
        rw [if_pos (Int32.toInt_inj.mp (by omega))]
  · refine lw9_qn (w := -1) ?_ (fun M1 X1 => ?_)
    · delta F_X11_strike F_X11_strike_b0
      rw [t_gO k2, Option.bind_some, C_isThingX k2 C.1.1.1 X.1.1, Option.bind_some, if_neg kT, if_pos rfl]
    · delta F_X12_strike F_X12_strike_b0
      rw [e_gO X1.1, Option.bind_some, E_isThingX X1, Option.bind_some, if_neg kT, if_pos rfl]
/-! COST -/
theorem lw9_cost {L : Nat} {M : gM} {l1 : Int32} (R : lw9 L M) : lw_42 L M (F_X11_cost (some 2) l1 M) (F_X12_cost (some 175) l1) := by
  have R8 := R.1
  have G := R8.2
  have hl := lw8_len R8.1.1.1
  refine lw9_qry R (S_X11_cost R8.1.1.1.1.1.1 R8.1.1.1.2.1.1.1) (fun M1 H W => S_X12_cost H W) (by decide) (by decide) (by decide) (by decide) (fun e σ nx sz P I rc Rr C h6 hf => ?_)
  have X := C.1.1.2
  have k2 := G_k2 G
  have V := X.1.1.2.2
  have Q := X.2.2
  have Qy := Q.1
  have z0 : (0 : Int32).toInt = 0 := rfl
  have zm : (-1 : Int32).toInt = -1 := rfl
  have B := q_B_of G hl C h6 hf
  have nn := s_Vn V
  have wh := X.1.2
  obtain ⟨_, ⟨⟨ks, _⟩, k3, k4⟩, _, r2, r3⟩ := k_XE X.1.1
  have v8 : M.2.1 9 4 = σ 8 := X.1.1.2.1.2.1.1.1
  by_cases kT : s_iT σ l1 = true
  · obtain ⟨a, a1, a2, a3, _⟩ := s_iT_n V kT
    have ft := k_Xsk X.1.1 a2
    have ss := s_struck (t := a) V (by omega)
    have tv : ∀ M1, e_V M1 σ → F_X12_thingOf (some 175) l1 3 M1 = some (σ (13 + 4 * a)) := fun M1 X1 => by
      have := E_thingOf X1 a1 (l2 := 3) (w := 3) rfl (by omega) (by decide)
      rwa [show 10 + 4 * a + 3 = 13 + 4 * a by omega] at this
    by_cases kb : hs_is (σ 8) l1 = 1
    · refine lw9_qn (w := 0) ?_ (fun M1 X1 => ?_)
      · delta F_X11_cost F_X11_cost_b0 F_X11_cost_b40
        rw [t_gO k2, Option.bind_some, C_isThingX k2 C.1.1.1 X.1.1, Option.bind_some, if_pos kT, if_neg (by decide), t_gR k2 (G_r5 G), Option.bind_some, t_gI ks, Option.bind_some, v8, C_bit, Option.bind_some, if_pos kb]
      · delta F_X12_cost F_X12_cost_b0 F_X12_cost_b35
        rw [e_gO X1.1, Option.bind_some, E_isThingX X1, Option.bind_some, if_pos kT, if_neg (by decide), e_sd X1 (k := 8) rfl (by decide)]
        rw [show F_X12_isOf (σ 8) l1 M1 = some 1 from if_pos kb, Option.bind_some, if_neg (by decide)]
    · by_cases c : (σ (13 + 4 * a)).toInt < 0
      · obtain ⟨τ, hτ⟩ : ∃ τ, τ = hs_set σ 8 (σ 8 ||| hs_bit l1) := ⟨_, rfl⟩
        have ne : ∀ j, j ≠ 8 → τ j = σ j := fun j hj => by rw [hτ]; exact hs_sn hj
        have nm := nm_of (σ := σ) (σ' := τ) (fun j hj => ne j (by omega))
        have lr := sl_r (r := s_ru Rr (M.2.1 2 13)) (t := a) 200 V a2 (by omega) Q.1.1 (by omega)
        refine ⟨(if s_sl (s_ru Rr (M.2.1 2 13)) a 200 σ = -1 then -1000 else if s_sl (s_ru Rr (M.2.1 2 13)) a 200 τ = -1 then -1000 else s_sl (s_ru Rr (M.2.1 2 13)) a 200 σ - s_sl (s_ru Rr (M.2.1 2 13)) a 200 τ), ?_, fun M1 X1 E1 f1 _ => ?_⟩
        · delta F_X11_cost F_X11_cost_b0
          refine x_gO k2 (x_eq (C_isThingX k2 C.1.1.1 X.1.1) ?_)
          rw [if_pos kT, if_neg (by decide)]
          refine x_gR k2 (G_r5 G) (x_gI ks v8 (x_eq C_bit (Ok_e kb ?_)))
          refine x_gR k2 (G_r5 G) (x_gR ks r3 (x_aI k4 a1 (by omega) ft.1 (Ok_t (ss.mpr c) ?_)))
          refine x_gR k2 (G_r6 G) (x_gR k2 (G_r5 G) (x_gO (k_LS_of G (s := 14) (by decide)).1.1 ?_))
          refine Ok_b (C_q_copy B q_F_r) (fun M12 q => ?_)
          have G12 := (q_G B q.1).1.1
          refine x_gC (G_k2 G12) (Ok_b (C_strikeLater B a1 q a2 Q.1) (fun x z => ?_))
          obtain ⟨v14, M15⟩ := x
          obtain ⟨z1, q15⟩ := z
          dsimp only at z1 q15 ⊢
          subst z1
          have G15 := (q_G B q15).1.1
          have g15 := G_k2 G15
          refine x_gR g15 (G_r6 G15) (x_gR g15 (G_r5 G15) (x_gO (k_LS_of G15 (s := 14) (by decide)).1.1 ?_))
          refine Ok_b (C_q_copy B q15) (fun M19 q => ?_)
          have G19 := (q_G B q.1).1.1
          have ks19 := (k_LS_of G19 (s := 14) (by decide)).1.1
          refine x_gR (G_k2 G19) (G_r6 G19) (x_gI ks19 (q.2.2.1.2.1.1.1) (x_pI ks19 ?_))
          have f2 : k_Fs 14 M19 (mI M19 14 4 (σ 8 ||| hs_bit l1)) := k_Fs_up (by omega)
          have q22 : q_C M (mI M19 14 4 (σ 8 ||| hs_bit l1)) e τ := by
            refine ⟨q_F_t q.1 (q_F_s f2), ?_⟩
            rw [hτ]
            exact k_X_8 q.2 (by unfold w_h at wh; omega) f2 y_mI1 (fun i k h1 h2 h3 => mI_ne (by omega))
          have G22 := (q_G B q22.1).1.1
          refine x_gC (G_k2 G22) (Ok_b (C_strikeLater B a1 q22 (by omega) (by rw [ne 4 (by decide)]; exact Q.1)) (fun x z => ?_))
          obtain ⟨v24, M25⟩ := x
          obtain ⟨z1, q25⟩ := z
          dsimp only at z1 q25 ⊢
          subst z1
          delta F_X11_cost_b101
          refine Ok_i (fun d => Ok_s ⟨?_, q_F_w q25⟩) (fun d => Ok_i (fun d2 => Ok_s ⟨?_, q_F_w q25⟩) (fun d2 => Ok_s ⟨?_, q_F_w q25⟩))
          · rw [if_pos d]
          · rw [if_neg d, if_pos d2]
          · rw [if_neg d, if_neg d2]
        · have J := E_inForce E1 h6 (by rw [f1]; exact hf)
          rw [f1] at J
          delta F_X12_cost F_X12_cost_b0
          rw [e_gO X1.1, Option.bind_some, E_isThingX X1, Option.bind_some, if_pos kT, if_neg (by decide), e_sd X1 (k := 8) rfl (by decide)]
          rw [show F_X12_isOf (σ 8) l1 M1 = some 0 from if_neg kb, Option.bind_some, if_pos rfl, tv M1 X1, Option.bind_some, if_pos (Int32.lt_iff_toInt_lt.mpr (by omega))]
          refine Ok_b (E_q_keeps X1 J) (fun M7 z => ?_)
          rw [e_gC z.1.1.1.1, Option.bind_some]
          refine Ok_b (E_strikeOf V a1 z.1 a2 Q.1) (fun x z => ?_)
          obtain ⟨v9, M10⟩ := x
          obtain ⟨z1, q10⟩ := z
          dsimp only at z1 q10 ⊢
          subst z1
          have X10 := q10.1.1
          have H10 := X10.1
          rw [e_gR H10 (w := 185) rfl (by decide), Option.bind_some, e_aI H10 (t := 20) (i := 185) (n := 157) rfl (by decide) (by decide) (by decide), Option.bind_some]
          refine e_s185 H10 X10.2.1 (k := 8) rfl (by decide) (y_full rfl) (fun M13 H13 f13 e13 => ?_)
          have e13' : M13.2.1 185 = τ := by
            rw [e13, X10.2.1, hτ]
            rfl
          have Vτ : s_V τ := by
            obtain ⟨V1, V2, V3, V4⟩ := V
            unfold s_V s_va s_st
            rw [ne 1 (by decide), ne 2 (by decide)]
            refine ⟨V1, fun a t ha ht => ?_, fun t ht => ?_, fun a ha => ?_⟩
            · rw [ne _ (by omega), ne _ (by omega)]
              exact V2 a t ha ht
            · rw [ne _ (by omega), ne _ (by omega), ne _ (by omega), ne _ (by omega)]
              exact V3 t ht
            · rw [ne _ (by omega), ne _ (by omega)]
              exact V4 a ha
          have q13 : e_Q (s_ru Rr (M.2.1 2 13)) σ M13 τ := ⟨⟨⟨H13, e13', Vτ⟩, e_I_m q10.1.2 f13 (by decide)⟩, fun j hj => by rw [y_fa (i := 188) f13 (by decide) (by decide) j]; exact q10.2.1 j hj, fun j hj => ne j (by omega)⟩
          rw [e_gC H13, Option.bind_some]
          refine Ok_b (E_strikeOf V a1 q13 (by omega) (by rw [ne 4 (by decide)]; exact Q.1)) (fun x z => ?_)
          obtain ⟨v15, M16⟩ := x
          obtain ⟨z1, q16⟩ := z
          dsimp only at z1 q16 ⊢
          subst z1
          have lr2 := sl_r (r := s_ru Rr (M.2.1 2 13)) (t := a) 200 Vτ (by omega) (by omega) (by rw [ne 4 (by decide)]; exact Q.1.1) (by rw [ne 4 (by decide)]; omega)
          delta F_X12_cost_b74
          refine Ok_i (fun d => Ok_s ⟨?_, q_done q16⟩) (fun d => Ok_i (fun d2 => Ok_s ⟨?_, q_done q16⟩) (fun d2 => Ok_s ⟨?_, q_done q16⟩))
          · have := i_lt d
            rw [if_pos (Int32.toInt_inj.mp (by omega))]
          · have := i_nlt d
            have := i_le d2
            rw [if_neg (i_nm (by omega)), if_neg (i_nm (by omega))]
          · have := i_nlt d
            have := i_nle d2
            rw [if_neg (i_nm (by omega)), if_pos (Int32.toInt_inj.mp (by omega))]
      · refine lw9_qn (w := 0) ?_ (fun M1 X1 => ?_)
        · delta F_X11_cost F_X11_cost_b0 F_X11_cost_b40
          rw [t_gO k2, Option.bind_some, C_isThingX k2 C.1.1.1 X.1.1, Option.bind_some, if_pos kT, if_neg (by decide), t_gR k2 (G_r5 G), Option.bind_some, t_gI ks, Option.bind_some, v8, C_bit, Option.bind_some, if_neg kb, Option.bind_some, t_gR ks r3, Option.bind_some, t_aI k4 (by omega) (by omega), Option.bind_some, i_cl a1, ft.1, if_neg (mt ss.mp c)]
        · delta F_X12_cost F_X12_cost_b0 F_X12_cost_b35
          rw [e_gO X1.1, Option.bind_some, E_isThingX X1, Option.bind_some, if_pos kT, if_neg (by decide), e_sd X1 (k := 8) rfl (by decide)]
          rw [show F_X12_isOf (σ 8) l1 M1 = some 0 from if_neg kb, Option.bind_some, if_pos rfl, tv M1 X1, Option.bind_some, if_neg (fun z => by have := i_lt z; omega)]
  · refine lw9_qn (w := -2000) ?_ (fun M1 X1 => ?_)
    · delta F_X11_cost F_X11_cost_b0
      rw [t_gO k2, Option.bind_some, C_isThingX k2 C.1.1.1 X.1.1, Option.bind_some, if_neg kT, if_pos rfl]
    · delta F_X12_cost F_X12_cost_b0
      rw [e_gO X1.1, Option.bind_some, E_isThingX X1, Option.bind_some, if_neg kT, if_pos rfl]
-- 7zak.inherits
/-! INHERITS: who HOLDS most; none HOLDS once none HELD -/
theorem f1_va {σ : Nat → Int32} {L : Nat → Nat → Int32} {h t h' t' : Nat} (ht : t < 7) (ht' : t' < 7) : s_va (s_f1 σ L h' t') h t = s_va σ h t ∨ s_va (s_f1 σ L h' t') h t = -1 := by
  unfold s_f1
  split
  · by_cases c : h = h' ∧ t = t'
    · obtain ⟨rfl, rfl⟩ := c
      rw [kw_v.1]
      split
      · exact Or.inr rfl
      · exact Or.inl rfl
    · exact Or.inl (kw_ne ht' ht (by omega)).1
  · exact Or.inl rfl
theorem fh_va {σ : Nat → Int32} {L : Nat → Nat → Int32} {h t h' : Nat} (ht : t < 7) : ∀ k, k ≤ 7 → s_va (s_fh σ L h' k) h t = s_va σ h t ∨ s_va (s_fh σ L h' k) h t = -1 := by
  intro k
  induction k with
  | zero => intro _; exact Or.inl rfl
  | succ k ih =>
    intro hk
    rcases f1_va (σ := s_fh σ L h' k) (L := L) (h := h) (h' := h') (t' := k) ht (by omega) with z | z
    · rcases ih (by omega) with y | y
      · exact Or.inl (z.trans y)
      · exact Or.inr (z.trans y)
    · exact Or.inr z
theorem fo_va {σ : Nat → Int32} {L : Nat → Nat → Int32} {h t : Nat} (ht : t < 7) (hn : hs_n σ ≤ 7) : ∀ k, s_va (s_fo σ L k) h t = s_va σ h t ∨ s_va (s_fo σ L k) h t = -1 := by
  intro k
  induction k with
  | zero => exact Or.inl rfl
  | succ k ih =>
    rcases fh_va (σ := s_fo σ L k) (L := L) (h := h) (h' := k) ht _ hn with z | z
    · rcases ih with y | y
      · exact Or.inl (z.trans y)
      · exact Or.inr (z.trans y)
    · exact Or.inr z
theorem yr_va {r : s_Ru} {σ : Nat → Int32} {h t : Nat} (V : s_V σ) (ht : t < 7) : s_va (s_yr r σ).2 h t = s_va σ h t ∨ s_va (s_yr r σ).2 h t = -1 := by
  have nn := s_Vn V
  have e : s_va (s_yr r σ).2 h t = s_va (s_fo σ (s_Ls r σ) (hs_m σ)) h t := by
    show hs_set (s_ks (s_ag (s_fo σ (s_Ls r σ) (hs_m σ)) (hs_m σ)) (hs_n σ)).2 4 _ (59 + 14 * h + 2 * t) = s_fo σ (s_Ls r σ) (hs_m σ) (59 + 14 * h + 2 * t)
    rw [hs_sn (by omega), ks_o (fun k hk => by omega) _ (by omega), ag_o (fun k hk => by omega) _ (by omega)]
  rw [e]
  exact fo_va ht nn.1.2 _
/-- what is HELD after a YEAR was HELD before it -/
theorem yr_ho {r : s_Ru} {σ : Nat → Int32} {h t : Nat} (V : s_V σ) (hy : 0 ≤ (σ 4).toInt) (ht : t < 7) (c : s_ho (s_yr r σ).2 h t = true) : s_ho σ h t = true := by
  have nm := yr_nm (r := r) V
  unfold s_ho at c ⊢
  simp only [Bool.and_eq_true, Bool.or_eq_true, decide_eq_true_eq, beq_iff_eq] at c ⊢
  obtain ⟨c1, c2, c3⟩ := c
  have k1 : 0 ≤ (s_va (s_yr r σ).2 h t).toInt := of_decide_eq_true c2
  have e : s_va (s_yr r σ).2 h t = s_va σ h t := by
    rcases yr_va (r := r) (h := h) V ht with z | z
    · exact z
    · rw [z] at k1
      exact absurd k1 (by decide)
  refine ⟨?_, (kn_of e).symm.trans c2, ?_⟩
  · rcases yr_st (r := r) V ht with z | z
    · rwa [z] at c1
    · rw [z.1] at c1
      omega
  · rcases c3 with z | z
    · left
      rw [e, yr_38 V (by omega) (by omega) (fun k _ => by omega)] at z
      exact z
    · right
      obtain ⟨o, o1, o2, o3⟩ := same_iff.mp z
      refine same_iff.mpr ⟨o, by rw [← nm.2]; exact o1, o2, ?_⟩
      rw [e] at o3
      rcases yr_va (r := r) (h := o) V ht with y | y
      · rw [← y]; exact o3
      · rw [y] at o3
        rw [e, ← o3] at k1
        exact absurd k1 (by decide)
/-- how many are HELD by an HEIR; who HOLDS most -/
def s_cN (σ : Nat → Int32) (h : Nat) : Nat := c_n (fun t => s_ho σ h t) (hs_n σ)
def s_mb (σ : Nat → Int32) : Nat → Option Nat
  | 0 => none
  | k + 1 => match s_mb σ k with
    | none => if s_cN σ k = 0 then none else some k
    | some b => if s_cN σ b < s_cN σ k then some k else some b
def s_an (σ : Nat → Int32) : Bool := (s_mb σ (hs_m σ)).isSome
def s_wo (σ : Nat → Int32) : Int32 := match s_mb σ (hs_m σ) with
  | none => -1
  | some b => Int32.ofNat b
theorem c_n0 {f : Nat → Bool} : ∀ k, c_n f k = 0 ↔ ∀ i, i < k → f i = false := by
  intro k
  induction k with
  | zero => exact ⟨fun _ i hi => absurd hi (Nat.not_lt_zero _), fun _ => rfl⟩
  | succ k ih =>
    constructor
    · intro h i hi
      have h : c_n f k + (if f k = true then 1 else 0) = 0 := h
      by_cases c : f k = true
      · rw [if_pos c] at h
        omega
      · rw [if_neg c] at h
        by_cases e : i = k
        · subst e
          exact b_ff c
        · exact ih.mp (by omega) i (by omega)
    · intro h
      show c_n f k + (if f k = true then 1 else 0) = 0
      rw [ih.mpr (fun i hi => h i (by omega)), h k (by omega)]
      rfl
theorem mb_lt {σ : Nat → Int32} : ∀ k b, s_mb σ k = some b → b < k ∧ 0 < s_cN σ b := by
  intro k
  induction k with
  | zero => intro b h; cases h
  | succ k ih =>
    intro b h
    unfold s_mb at h
    cases e : s_mb σ k with
    | none =>
      rw [e] at h
      dsimp only at h
      by_cases c : s_cN σ k = 0
      · rw [if_pos c] at h; cases h
      · rw [if_neg c] at h
        obtain rfl := Option.some.inj h
        omega
    | some a =>
      rw [e] at h
      dsimp only at h
      have := ih a e
      by_cases c : s_cN σ a < s_cN σ k
      · rw [if_pos c] at h
        obtain rfl := Option.some.inj h
        omega
      · rw [if_neg c] at h
        obtain rfl := Option.some.inj h
        omega
theorem mb_none {σ : Nat → Int32} : ∀ k, s_mb σ k = none ↔ ∀ h, h < k → s_cN σ h = 0 := by
  intro k
  induction k with
  | zero => exact ⟨fun _ i hi => absurd hi (Nat.not_lt_zero _), fun _ => rfl⟩
  | succ k ih =>
    constructor
    · intro h i hi
      unfold s_mb at h
      cases e : s_mb σ k with
      | none =>
        rw [e] at h
        dsimp only at h
        by_cases c : s_cN σ k = 0
        · by_cases e2 : i = k
          · rw [e2]; exact c
          · exact ih.mp e i (by omega)
        · rw [if_neg c] at h; cases h
      | some a =>
        rw [e] at h
        dsimp only at h
        split at h <;> cases h
    · intro h
      unfold s_mb
      rw [ih.mpr (fun i hi => h i (by omega))]
      dsimp only
      rw [if_pos (h k (by omega))]
theorem an_iff {σ : Nat → Int32} : s_an σ = false ↔ ∀ h t, h < hs_m σ → t < hs_n σ → s_ho σ h t = false := by
  unfold s_an
  constructor
  · intro h a t ha ht
    have : s_mb σ (hs_m σ) = none := by
      cases e : s_mb σ (hs_m σ) with
      | none => rfl
      | some b => rw [e] at h; cases h
    exact (c_n0 _).mp ((mb_none _).mp this a ha) t ht
  · intro h
    rw [(mb_none _).mpr (fun a ha => (c_n0 _).mpr (fun t ht => h a t ha ht))]
    rfl
theorem yr_an {r : s_Ru} {σ : Nat → Int32} (V : s_V σ) (hy : 0 ≤ (σ 4).toInt) (c : s_an σ = false) : s_an (s_yr r σ).2 = false := by
  have nm := yr_nm (r := r) V
  have nn := s_Vn V
  rw [an_iff] at c ⊢
  intro h t hh ht
  cases e : s_ho (s_yr r σ).2 h t with
  | false => rfl
  | true =>
    have := yr_ho V hy (by omega) e
    rw [c h t (by omega) (by omega)] at this
    cases this
theorem C_isAnyHeld {M : gM} {s e : Nat} {σ : Nat → Int32} (X : k_X M s e σ) : F_X8_isAnyHeld (some s) (some e) M = some (if s_an σ = true then 1 else 0) := by
  have nn := s_Vn X.2.2
  obtain ⟨⟨ke, ⟨e6, e7⟩, _⟩, ⟨⟨ks, _⟩, _⟩, _⟩ := k_XE X
  have h0 : ∀ t, s_hs σ t = 0 ↔ ∀ h, h < hs_m σ → s_ho σ h t = false := fun t => by
    unfold s_hs
    rw [bs_zero (by omega)]
  have main : ∀ (n j : Nat) {l2 : Int32}, (∀ t, t < j → s_hs σ t = 0) → l2.toInt = (j : Int) → j ≤ hs_n σ → hs_n σ - j < n → F_X8_isAnyHeld_L2 M n (some s) (some e) l2 = some (if s_an σ = true then 1 else 0) := by
    intro n
    induction n with
    | zero => intro j l2 _ h3 hj hn; omega
    | succ n ih =>
      intro j l2 hz h3 hj hn
      show F_X8_isAnyHeld_b2 (F_X8_isAnyHeld_L2 M n) M (some s) (some e) l2 = _
      delta F_X8_isAnyHeld_b2
      rw [t_gI ke, Option.bind_some, e6]
      have c0 := i_le_n h3 nn.1.1
      by_cases c : hs_n σ ≤ j
      · have : j = hs_n σ := by omega
        subst this
        rw [if_pos (c0.mpr c), an_iff.mpr (fun h t hh ht => (h0 t).mp (hz t ht) h hh), if_neg (by decide)]
      · rw [if_neg (mt c0.mp c), t_gO ks, Option.bind_some, C_holdersOf X h3 (by omega), Option.bind_some]
        by_cases d : s_hs σ j = 0
        · rw [if_pos d]
          refine ih (j + 1) (fun t ht => ?_) (i_nx h3 (by omega)) (by omega) (by omega)
          by_cases e : t = j
          · rw [e]; exact d
          · exact hz t (by omega)
        · rw [if_neg d]
          cases e : s_an σ with
          | true => rw [if_pos rfl]
          | false => exact absurd ((h0 j).mpr (fun h hh => an_iff.mp e h j hh (by omega))) d
  delta F_X8_isAnyHeld F_X8_isAnyHeld_b0
  exact main g_fuel 0 (l2 := 0) (fun t ht => absurd ht (Nat.not_lt_zero _)) rfl (Nat.zero_le _) (n_fu (by omega))
theorem C_holdsMost {M : gM} {s e : Nat} {σ : Nat → Int32} (X : k_X M s e σ) : F_X8_holdsMost (some s) (some e) M = some (s_wo σ) := by
  have nn := s_Vn X.2.2
  obtain ⟨⟨ke, ⟨e6, e7⟩, _⟩, ⟨⟨ks, _⟩, _⟩, _⟩ := k_XE X
  have cl : ∀ h, s_cN σ h ≤ 7 := fun h => Nat.le_trans (c_n_le _) nn.1.2
  have main : ∀ (n j : Nat) {l2 l3 l4 : Int32}, l2 = (match s_mb σ j with | none => -1 | some b => Int32.ofNat b) → l3 = Int32.ofNat (match s_mb σ j with | none => 0 | some b => s_cN σ b) → l4.toInt = (j : Int) → j ≤ hs_m σ → hs_m σ - j < n → F_X8_holdsMost_L7 M n (some s) (some e) l2 l3 l4 = some (s_wo σ) := by
    intro n
    induction n with
    | zero => intro j l2 l3 l4 _ _ _ hj hn; omega
    | succ n ih =>
      intro j l2 l3 l4 h2 h3 h4 hj hn
      show F_X8_holdsMost_b7 (F_X8_holdsMost_L7 M n) M (some s) (some e) l2 l3 l4 = _
      delta F_X8_holdsMost_b7 F_X8_holdsMost_b40
      rw [t_gI ke, Option.bind_some, e7]
      have c0 := i_le_n h4 nn.2.1
      by_cases c : hs_m σ ≤ j
      · have : j = hs_m σ := by omega
        subst this
        rw [if_pos (c0.mpr c), h2]
        rfl
      · have e1 : F_J6_bitCount_0f7a4 (s_hb σ j) M = some (Int32.ofNat (s_cN σ j)) := by
          unfold s_hb
          rw [C_bitCount nn.1.2, c_n_cn _ (by omega)]
          rfl
        rw [if_neg (mt c0.mp c), t_gO ks, Option.bind_some, C_heldBy X h4 (by omega), Option.bind_some, e1, Option.bind_some]
        have o1 : (Int32.ofNat (s_cN σ j)).toInt = _ := i_ofNat (by have := cl j; omega)
        cases em : s_mb σ j with
        | none =>
          rw [em] at h2 h3
          dsimp only at h2 h3
          have o2 : l3.toInt = 0 := by rw [h3]; rfl
          by_cases d : Int32.ofNat (s_cN σ j) ≤ l3
          · have := i_le d
            rw [if_pos d]
            have e2 : s_mb σ (j + 1) = none := by
              show (match s_mb σ j with | none => if s_cN σ j = 0 then none else some j | some b => if s_cN σ b < s_cN σ j then some j else some b) = _
              rw [em]
              exact if_pos (by omega)
            exact ih (j + 1) (by rw [e2]; exact h2) (by rw [e2]; exact h3) (i_nx h4 (by omega)) (by omega) (by omega)
          · have := i_nle d
            rw [if_neg d]
            have e2 : s_mb σ (j + 1) = some j := by
              show (match s_mb σ j with | none => if s_cN σ j = 0 then none else some j | some b => if s_cN σ b < s_cN σ j then some j else some b) = _
              rw [em]
              exact if_neg (by omega)
            exact ih (j + 1) (by rw [e2]; exact i_of h4 (by omega)) (by rw [e2]) (i_nx h4 (by omega)) (by omega) (by omega)
        | some b =>
          rw [em] at h2 h3
          dsimp only at h2 h3
          have o2 : l3.toInt = (s_cN σ b : Int) := by rw [h3]; exact i_ofNat (by have := cl b; omega)
          by_cases d : Int32.ofNat (s_cN σ j) ≤ l3
          · have := i_le d
            rw [if_pos d]
            have e2 : s_mb σ (j + 1) = some b := by
              show (match s_mb σ j with | none => if s_cN σ j = 0 then none else some j | some b => if s_cN σ b < s_cN σ j then some j else some b) = _
              rw [em]
              exact if_neg (by omega)
            exact ih (j + 1) (by rw [e2]; exact h2) (by rw [e2]; exact h3) (i_nx h4 (by omega)) (by omega) (by omega)
          · have := i_nle d
            rw [if_neg d]
            have e2 : s_mb σ (j + 1) = some j := by
              show (match s_mb σ j with | none => if s_cN σ j = 0 then none else some j | some b => if s_cN σ b < s_cN σ j then some j else some b) = _
              rw [em]
              exact if_pos (by omega)
            exact ih (j + 1) (by rw [e2]; exact i_of h4 (by omega)) (by rw [e2]) (i_nx h4 (by omega)) (by omega) (by omega)
  delta F_X8_holdsMost F_X8_holdsMost_b0
  exact main g_fuel 0 (l2 := -1) (l3 := 0) (l4 := 0) rfl rfl rfl (Nat.zero_le _) (n_fu (by omega))
theorem E_most {M : gM} {σ : Nat → Int32} (X : e_V M σ) : F_X12_most (some 175) M = some (s_wo σ) := by
  have nn := s_Vn X.2.2
  have z0 : (0 : Int32).toInt = 0 := rfl
  have cl : ∀ h, s_cN σ h ≤ 7 := fun h => Nat.le_trans (c_n_le _) nn.1.2
  have hz : ∀ h, s_hb σ h = 0 ↔ s_cN σ h = 0 := fun h => by
    unfold s_hb s_cN
    rw [bs_zero (by omega), c_n0]
  have e1 : ∀ h, F_X12_bits (s_hb σ h) M = some (Int32.ofNat (s_cN σ h)) := fun h => by
    unfold s_hb
    rw [E_bits nn.1.2, c_n_cn _ (by omega)]
    rfl
  have main : ∀ (n j : Nat) {l1 l2 : Int32}, l1 = (match s_mb σ j with | none => -1 | some b => Int32.ofNat b) → l2.toInt = (j : Int) → j ≤ hs_m σ → hs_m σ - j < n → F_X12_most_L4 M n (some 175) l1 l2 = some (s_wo σ) := by
    intro n
    induction n with
    | zero => intro j l1 l2 _ _ hj hn; omega
    | succ n ih =>
      intro j l1 l2 h2 h4 hj hn
      show F_X12_most_b4 (F_X12_most_L4 M n) M (some 175) l1 l2 = _
      delta F_X12_most_b4 F_X12_most_b45 F_X12_most_b47
      rw [e_sd X (k := 2) rfl (by decide)]
      have c0 := i_le_n h4 nn.2.1
      by_cases c : hs_m σ ≤ j
      · have : j = hs_m σ := by omega
        subst this
        rw [if_pos (c0.mpr c), h2]
        rfl
      · have o1 : (Int32.ofNat (s_cN σ j)).toInt = _ := i_ofNat (by have := cl j; omega)
        have un : s_mb σ (j + 1) = (match s_mb σ j with | none => if s_cN σ j = 0 then none else some j | some b => if s_cN σ b < s_cN σ j then some j else some b) := rfl
        rw [if_neg (mt c0.mp c), e_gO X.1, Option.bind_some, E_holdsOf X h4 (by omega), Option.bind_some]
        cases em : s_mb σ j with
        | none =>
          rw [em] at h2 un
          dsimp only at h2 un
          by_cases d : s_cN σ j = 0
          · rw [if_pos ((hz j).mpr d)]
            rw [if_pos d] at un
            exact ih (j + 1) (by rw [un]; exact h2) (i_nx h4 (by omega)) (by omega) (by omega)
          · rw [if_neg (mt (hz j).mp d), if_pos (by rw [h2]; decide)]
            rw [if_neg d] at un
            exact ih (j + 1) (by rw [un]; exact i_of h4 (by omega)) (i_nx h4 (by omega)) (by omega) (by omega)
        | some b =>
          rw [em] at h2 un
          dsimp only at h2 un
          have lb := mb_lt _ _ em
          have hb : l1.toInt = (b : Int) := by rw [h2]; exact i_ofNat (by omega)
          have o2 : (Int32.ofNat (s_cN σ b)).toInt = _ := i_ofNat (by have := cl b; omega)
          by_cases d : s_cN σ j = 0
          · rw [if_pos ((hz j).mpr d)]
            rw [if_neg (by omega)] at un
            exact ih (j + 1) (by rw [un]; exact h2) (i_nx h4 (by omega)) (by omega) (by omega)
          · rw [if_neg (mt (hz j).mp d), if_neg (fun z => by have := i_lt z; omega), Option.bind_some, e1, Option.bind_some, E_holdsOf X hb (by omega), Option.bind_some, e1, Option.bind_some]
            by_cases q : Int32.ofNat (s_cN σ j) ≤ Int32.ofNat (s_cN σ b)
            · have := i_le q
              rw [if_pos q]
              rw [if_neg (by omega)] at un
              exact ih (j + 1) (by rw [un]; exact h2) (i_nx h4 (by omega)) (by omega) (by omega)
            · have := i_nle q
              rw [if_neg q]
              rw [if_pos (by omega)] at un
              exact ih (j + 1) (by rw [un]; exact i_of h4 (by omega)) (i_nx h4 (by omega)) (by omega) (by omega)
  delta F_X12_most F_X12_most_b0
  exact main g_fuel 0 (l1 := -1) (l2 := 0) rfl rfl (Nat.zero_le _) (n_fu (by omega))
-- 7zal.inherits2
/-! INHERITS of both -/
theorem wo_neg {σ : Nat → Int32} (V : s_V σ) : ((s_wo σ).toInt < 0 ↔ s_an σ = false) ∧ -1 ≤ (s_wo σ).toInt := by
  have nn := s_Vn V
  unfold s_wo s_an
  cases e : s_mb σ (hs_m σ) with
  | none => exact ⟨⟨fun _ => rfl, fun _ => by decide⟩, by decide⟩
  | some b =>
    have := mb_lt _ _ e
    have h : (Int32.ofNat b).toInt = (b : Int) := i_ofNat (by omega)
    dsimp only
    rw [h]
    exact ⟨⟨fun z => by omega, fun z => by cases z⟩, by omega⟩
noncomputable def s_lp (r : s_Ru) (σ : Nat → Int32) : Nat → Option Nat
  | 0 => none
  | k + 1 => if s_an (s_ny r σ k) = true then some k else s_lp r σ k
theorem lp_lt {r : s_Ru} {σ : Nat → Int32} : ∀ k j, s_lp r σ k = some j → j < k := by
  intro k
  induction k with
  | zero => intro j h; cases h
  | succ k ih =>
    intro j h
    unfold s_lp at h
    split at h
    · obtain rfl := Option.some.inj h
      omega
    · have := ih j h
      omega
/-- none HELD at i: none later -/
theorem ny_an {r : s_Ru} {σ : Nat → Int32} (V : s_V σ) (hy : 0 ≤ (σ 4).toInt ∧ (σ 4).toInt ≤ 999) {i : Nat} (c : s_an (s_ny r σ i) = false) : ∀ d, i + d ≤ 1000 → s_an (s_ny r σ (i + d)) = false := by
  intro d
  induction d with
  | zero => intro _; exact c
  | succ d ih =>
    intro hd
    have V1 := ny_i (r := r) V hy (i + d) (by omega)
    exact yr_an (r := r) (σ := s_ny r σ (i + d)) V1.1.1 (by omega) (ih (by omega))
theorem lp_stay {r : s_Ru} {σ : Nat → Int32} (V : s_V σ) (hy : 0 ≤ (σ 4).toInt ∧ (σ 4).toInt ≤ 999) {i : Nat} (c : s_an (s_ny r σ i) = false) : ∀ d, i + d ≤ 1000 → s_lp r σ (i + d) = s_lp r σ i := by
  intro d
  induction d with
  | zero => intro _; rfl
  | succ d ih =>
    intro hd
    show (if s_an (s_ny r σ (i + d)) = true then some (i + d) else s_lp r σ (i + d)) = _
    rw [if_neg (by rw [ny_an V hy c d (by omega)]; decide)]
    exact ih (by omega)
noncomputable def s_iw (r : s_Ru) (σ : Nat → Int32) (o : Option Nat) : Int32 := match o with
  | none => -2
  | some j => s_wo (s_ny r σ j)
noncomputable def s_iy (r : s_Ru) (σ : Nat → Int32) (o : Option Nat) : Int32 := match o with
  | none => -2
  | some j => s_ny r σ j 4
noncomputable def s_ia (r : s_Ru) (σ : Nat → Int32) (l1 : Int32) : Int32 := if s_lp r σ 201 = some 200 then -3 else if l1 = 0 then s_iw r σ (s_lp r σ 201) else s_iy r σ (s_lp r σ 201)
theorem E_inherits_L32 {r : s_Ru} {ρ : Nat → Int32} {l1 : Int32} (V : s_V ρ) (hy : 0 ≤ (ρ 4).toInt ∧ (ρ 4).toInt ≤ 999) : ∀ (n k : Nat) {l2 l3 l4 : Int32} {M : gM}, e_Q r ρ M (s_ny r ρ k) → l2 = s_iw r ρ (s_lp r ρ k) → l3 = s_iy r ρ (s_lp r ρ k) → l4.toInt = (k : Int) → k ≤ 201 → 201 - k < n → Ok (F_X12_inherits_L32 n (some 175) l1 l2 l3 l4 M) (fun q => q.1 = s_ia r ρ l1 ∧ ∀ j, j < 157 → q.2.2.1 185 j = ρ j) := by
  have z200 : (200 : Int32).toInt = 200 := rfl
  have z0 : (0 : Int32).toInt = 0 := rfl
  intro n
  induction n with
  | zero => intro k l2 l3 l4 M _ _ _ _ _ _; omega
  | succ n ih =>
    intro k l2 l3 l4 M Q h2 h3 hl hk hn
    have V1 := ny_i (r := r) V hy k (by omega)
    show Ok (F_X12_inherits_b32 (F_X12_inherits_L32 n) (some 175) l1 l2 l3 l4 M) _
    delta F_X12_inherits_b32 F_X12_inherits_b61
    by_cases c : (200 : Int32) < l4
    · have := i_lt c
      have e : k = 201 := by omega
      subst e
      refine Ok_t c (x_eq (e_gO Q.1.1.1) (Ok_b (E_q_lays V Q) (fun M2 z => ?_)))
      have X2 := z.1.1.1
      rw [e_sd X2 (k := 4) rfl (by decide)]
      have a4 := i_addc (x := ρ 4) (c := (200 : Int32)) (n := 200) rfl (by omega) (by omega)
      have main : l3 = ρ 4 + (200 : Int32) ↔ s_lp r ρ 201 = some 200 := by
        rw [h3]
        cases e : s_lp r ρ 201 with
        | none =>
          constructor
          · intro z
            have : (-2 : Int32).toInt = (ρ 4 + (200 : Int32)).toInt := congrArg Int32.toInt z
            have z2 : (-2 : Int32).toInt = -2 := rfl
            omega
          · intro z; cases z
        | some j =>
          have lj := lp_lt _ _ e
          have Vj := ny_i (r := r) V hy j (by omega)
          constructor
          · intro z
            have : (s_ny r ρ j 4).toInt = (ρ 4 + (200 : Int32)).toInt := congrArg Int32.toInt z
            have : j = 200 := by omega
            rw [this]
          · intro z
            obtain rfl := Option.some.inj z
            exact Int32.toInt_inj.mp (by show (s_ny r ρ 200 4).toInt = _; omega)
      unfold s_ia
      by_cases d : s_lp r ρ 201 = some 200
      · rw [if_pos d]
        exact Ok_t (main.mpr d) (Ok_s ⟨rfl, q_done z.1⟩)
      · rw [if_neg d]
        refine Ok_e (mt main.mp d) ?_
        by_cases l0 : l1 = 0
        · rw [if_pos l0, if_pos l0]
          exact Ok_s ⟨h2, q_done z.1⟩
        · rw [if_neg l0, if_neg l0]
          exact Ok_s ⟨h3, q_done z.1⟩
    · have := i_nlt c
      refine Ok_e c (x_eq (e_gO Q.1.1.1) (x_eq (E_most Q.1.1) ?_))
      have wn := (wo_neg V1.1.1).1
      refine Ok_i (fun d => ?_) (fun d => ?_)
      · have d := i_lt d
        have ea := wn.mp d
        refine x_eq (e_gO Q.1.1.1) (Ok_b (E_q_year Q (by omega)) (fun q z => ?_))
        obtain ⟨v, M6⟩ := q
        have el : s_lp r ρ (k + 1) = s_lp r ρ k := if_neg (by rw [ea]; decide)
        exact ih (k + 1) z.2 (by rw [el]; exact h2) (by rw [el]; exact h3) (i_nx hl (by omega)) (by omega) (by omega)
      · have d := i_nlt d
        have ea : s_an (s_ny r ρ k) = true := by
          cases e : s_an (s_ny r ρ k) with
          | true => rfl
          | false => have := wn.mpr e; omega
        rw [e_sd Q.1.1 (k := 4) rfl (by decide)]
        refine x_eq (e_gO Q.1.1.1) (Ok_b (E_q_year Q (by omega)) (fun q z => ?_))
        obtain ⟨v, M6⟩ := q
        have el : s_lp r ρ (k + 1) = some k := if_pos ea
        exact ih (k + 1) z.2 (by rw [el]; rfl) (by rw [el]; rfl) (i_nx hl (by omega)) (by omega) (by omega)
theorem C_inherits_L56 {M0 : gM} {e : Nat} {r : s_Ru} {ρ : Nat → Int32} {l1 : Int32} (B : q_B M0 e r ρ) (V : s_V ρ) (hy : 0 ≤ (ρ 4).toInt ∧ (ρ 4).toInt ≤ 999) (ha : s_an ρ = true) : ∀ (n k : Nat) {l2 l3 l4 : Int32} {M : gM}, q_C M0 M e (s_ny r ρ k) → (k = 0 ∨ ∃ j, k = j + 1 ∧ s_lp r ρ k = some j ∧ l2 = s_wo (s_ny r ρ j) ∧ l3 = s_ny r ρ j 4) → l4.toInt = (k : Int) → k ≤ 200 → 200 - k < n → Ok (F_X11_inherits_L56 n (some 2) l1 l2 l3 l4 M) (fun q => q.1 = s_ia r ρ l1 ∧ q_F M0 q.2) := by
  have z200 : (200 : Int32).toInt = 200 := rfl
  have z0 : (0 : Int32).toInt = 0 := rfl
  intro n
  induction n with
  | zero => intro k l2 l3 l4 M _ _ _ _ _; omega
  | succ n ih =>
    intro k l2 l3 l4 M Q hp hl hk hn
    obtain ⟨⟨G, r11⟩, _⟩ := q_G B Q.1
    have g2 := G_k2 G
    obtain ⟨_, ⟨⟨ks, _⟩, _⟩, _⟩ := k_XE Q.2
    have V1 := ny_i (r := r) V hy k (by omega)
    have y5 : M.2.1 14 5 = s_ny r ρ k 4 := Q.2.2.1.2.1.1.2
    have out : (s_an (s_ny r ρ k) = true → k = 200) → Ok (F_X11_inherits_b124 (some 2) l1 l2 l3 M) (fun q => q.1 = s_ia r ρ l1 ∧ q_F M0 q.2) := by
      intro hk2
      delta F_X11_inherits_b124
      refine x_gR g2 (G_r6 G) (x_gR g2 r11 (x_gO ks (x_eq (C_isAnyHeld Q.2) ?_)))
      unfold s_ia
      cases ea : s_an (s_ny r ρ k) with
      | true =>
        have e := hk2 ea
        subst e
        have el : s_lp r ρ 201 = some 200 := if_pos ea
        rw [if_pos rfl, if_neg (by decide), if_pos el]
        exact Ok_s ⟨rfl, Q.1⟩
      | false =>
        have st := lp_stay V hy ea (201 - k) (by omega)
        rw [show k + (201 - k) = 201 by omega] at st
        rcases hp with hp | ⟨j, e1, e2, e3, e4⟩
        · subst hp
          have : s_an ρ = false := ea
          rw [ha] at this
          cases this
        · refine Ok_t rfl ?_
          have nd : ¬ s_lp r ρ 201 = some 200 := by
            rw [st, e2]
            intro z
            have := Option.some.inj z
            omega
          rw [if_neg nd, st, e2]
          by_cases l0 : l1 = 0
          · rw [if_pos l0, if_pos l0]
            exact Ok_s ⟨e3, Q.1⟩
          · rw [if_neg l0, if_neg l0]
            exact Ok_s ⟨e4, Q.1⟩
    show Ok (F_X11_inherits_b56 (F_X11_inherits_L56 n) (some 2) l1 l2 l3 l4 M) _
    delta F_X11_inherits_b56
    by_cases c : (200 : Int32) ≤ l4
    · have := i_le c
      exact Ok_t c (out (fun _ => by omega))
    · have := i_nle c
      refine Ok_e c (x_gR g2 (G_r6 G) (x_gR g2 r11 (x_gO ks (x_eq (C_isAnyHeld Q.2) ?_))))
      cases ea : s_an (s_ny r ρ k) with
      | false =>
        exact Ok_t rfl (out (fun z => by rw [ea] at z; cases z))
      | true =>
        rw [if_pos rfl]
        refine Ok_e (by decide) (x_gR g2 (G_r6 G) (x_gR g2 r11 (x_gO ks (x_eq (C_holdsMost Q.2) ?_))))
        refine x_gR g2 (G_r6 G) (x_gI ks y5 (x_gR g2 (G_r4 G) (x_gR g2 r11 (x_gR g2 (G_r6 G) (x_gO g2 ?_)))))
        refine Ok_b (C_q_rule B Q.1) (fun rl J => ?_)
        refine x_gO (G_k4 G) (Ok_b (C_q_year B Q (by omega) J) (fun q z => ?_))
        obtain ⟨v, M18⟩ := q
        exact ih (k + 1) z (Or.inr ⟨k, rfl, if_pos ea, rfl, rfl⟩) (i_nx hl (by omega)) (by omega) (by omega)
theorem lw9_inherits {L : Nat} {M : gM} {l1 : Int32} (R : lw9 L M) : lw_42 L M (F_X11_inherits (some 2) l1 M) (F_X12_inherits (some 175) l1) := by
  have R8 := R.1
  have G := R8.2
  have hl := lw8_len R8.1.1.1
  refine lw9_qry R (S_X11_inherits R8.1.1.1.1.1.1 R8.1.1.1.2.1.1.1) (fun M1 H W => S_X12_inherits H W) (by decide) (by decide) (by decide) (by decide) (fun e σ nx sz P I rc Rr C h6 hf => ?_)
  have X := C.1.1.2
  have k2 := G_k2 G
  have V := X.1.1.2.2
  have Q := X.2.2
  have z0 : (0 : Int32).toInt = 0 := rfl
  have z1 : (1 : Int32).toInt = 1 := rfl
  have B := q_B_of G hl C h6 hf
  have nn := s_Vn V
  have ke : g_k M e = (1, 0) := X.1.1.1.1.1
  have ks : g_k M 9 = (8, 0) := X.1.1.1.2.1.1
  have t5 := X.2.1
  by_cases c : 0 ≤ l1.toInt ∧ l1.toInt ≤ 1
  · by_cases kH : 0 < (σ 0).toInt
    · rw [if_pos kH] at t5
      refine ⟨s_ia (s_ru Rr (M.2.1 2 13)) σ l1, ?_, fun M1 X1 E1 f1 _ => ?_⟩
      · delta F_X11_inherits F_X11_inherits_b0
        rw [if_neg (fun z => by have := i_lt z; omega), if_neg (fun z => by have := i_lt z; omega)]
        refine x_gR k2 C.1.1.1 (x_gI ke t5 ?_)
        rw [if_neg (by decide)]
        refine x_gR k2 (G_r5 G) (x_gR k2 C.1.1.1 (x_gO ks (x_eq (C_isAnyHeld X.1.1) ?_)))
        cases ea : s_an σ with
        | false =>
          have st := lp_stay (r := s_ru Rr (M.2.1 2 13)) (i := 0) V Q.1 ea 201 (by omega)
          have st' : s_lp (s_ru Rr (M.2.1 2 13)) σ 201 = none := st
          refine Ok_t rfl (Ok_s ⟨?_, w_F_r⟩)
          unfold s_ia
          have nd : ¬ s_lp (s_ru Rr (M.2.1 2 13)) σ 201 = some 200 := by
            rw [st']
            intro z
            cases z
          rw [if_neg nd, st']
          by_cases l0 : l1 = 0
          · rw [if_pos l0]; rfl
          · rw [if_neg l0]; rfl
        | true =>
          rw [if_pos rfl]
          refine Ok_e (by decide) (x_gR k2 (G_r6 G) (x_gR k2 (G_r5 G) (x_gO (k_LS_of G (s := 14) (by decide)).1.1 ?_)))
          refine Ok_b (C_q_copy B q_F_r) (fun M10 q => ?_)
          exact Ok_w (C_inherits_L56 B V Q.1 ea g_fuel 0 (l4 := 0) q (Or.inl rfl) rfl (Nat.zero_le _) (n_fu (by omega))) (fun x z => ⟨z.1, q_F_w z.2⟩)
      · have J := E_inForce E1 h6 (by rw [f1]; exact hf)
        rw [f1] at J
        delta F_X12_inherits F_X12_inherits_b0
        rw [e_gO X1.1, Option.bind_some, E_isHouseX X1, Option.bind_some, if_pos kH, if_neg (by decide), E_in (a := 0) (b := 1) rfl rfl, Option.bind_some, if_pos c, if_neg (by decide)]
        refine Ok_b (E_q_keeps X1 J) (fun M4 z => ?_)
        exact E_inherits_L32 V Q.1 g_fuel 0 (l4 := 0) z.1 rfl rfl rfl (Nat.zero_le _) (n_fu (by omega))
    · rw [if_neg kH] at t5
      refine lw9_qn (w := -1) ?_ (fun M1 X1 => ?_)
      · delta F_X11_inherits F_X11_inherits_b0 F_X11_inherits_b19
        rw [if_neg (fun z => by have := i_lt z; omega), if_neg (fun z => by have := i_lt z; omega), t_gR k2 C.1.1.1, Option.bind_some, t_gI ke, Option.bind_some, t5, if_pos rfl]
      · delta F_X12_inherits F_X12_inherits_b0 F_X12_inherits_b17
        rw [e_gO X1.1, Option.bind_some, E_isHouseX X1, Option.bind_some, if_neg kH, if_pos rfl]
  · refine lw9_qn (w := -1) ?_ (fun M1 X1 => ?_)
    · delta F_X11_inherits F_X11_inherits_b0 F_X11_inherits_b19
      by_cases d : l1 < 0
      · rw [if_pos d]
      · have := i_nlt d
        rw [if_neg d, if_pos (Int32.lt_iff_toInt_lt.mpr (by omega))]
    · delta F_X12_inherits F_X12_inherits_b0 F_X12_inherits_b17
      rw [e_gO X1.1, Option.bind_some, E_isHouseX X1, Option.bind_some]
      by_cases kH : 0 < (σ 0).toInt
      · rw [if_pos kH, if_neg (by decide), E_in (a := 0) (b := 1) rfl rfl, Option.bind_some, if_neg c, if_pos rfl]
      · rw [if_neg kH, if_pos rfl]
-- 7zam.falls
/-! FALLS and EXAMINE -/
theorem i_ext {a b : Int32} (h : ∀ i, i < 32 → a.toBitVec.getLsbD i = b.toBitVec.getLsbD i) : a = b := Int32.toBitVec_inj.mp (BitVec.eq_of_getLsbD_eq (fun i hi => h i hi))
theorem bs_diff {f g : Nat → Bool} {n : Nat} (hn : n ≤ 7) : s_bs f n &&& (s_bs g n ^^^ (-1 : Int32)) = s_bs (fun t => f t && !g t) n := by
  refine i_ext (fun i hi => ?_)
  have e1 : ((-1 : Int32)).toBitVec = BitVec.allOnes 32 := by decide
  rw [and_get, bs_get (by omega), bs_get (by omega), Int32.toBitVec_xor, BitVec.getLsbD_xor, bs_get (by omega), e1, BitVec.getLsbD_allOnes]
  by_cases c : i < n
  · simp [c, hi]
  · simp [c, hi]
def s_fg (σ : Nat → Int32) (h : Nat) : Nat → Nat → Int32
  | 0 => σ
  | t + 1 => s_kw (s_fg σ h t) h t 0 0
theorem fg_nm {σ : Nat → Int32} {h : Nat} : ∀ k, hs_n (s_fg σ h k) = hs_n σ ∧ hs_m (s_fg σ h k) = hs_m σ := by
  intro k
  induction k with
  | zero => exact ⟨rfl, rfl⟩
  | succ k ih => exact ⟨kw_nm.1.trans ih.1, kw_nm.2.trans ih.2⟩
theorem C_falls_L53 {M0 M : gM} {e : Nat} {r : s_Ru} {ρ σ : Nat → Int32} (B : q_B M0 e r ρ) (Q : q_C M0 M e σ) (hn1 : hs_n σ = hs_n ρ) : ∀ (n t : Nat) {l2 l3 : Int32}, l2 = s_bs (fun t => s_hs ρ t != 0 && !(s_hs σ t != 0)) t → l3.toInt = (t : Int) → t ≤ hs_n ρ → hs_n ρ - t < n → Ok (F_X11_falls_L53 n (some 2) l2 l3 M) (fun q => q.1 = s_bs (fun t => s_hs ρ t != 0 && !(s_hs σ t != 0)) (hs_n ρ) ∧ q_F M0 q.2) := by
  obtain ⟨⟨G, r11⟩, X9⟩ := q_G B Q.1
  have g2 := G_k2 G
  obtain ⟨⟨ke, ⟨e6, e7⟩, _⟩, ⟨⟨ks, _⟩, _⟩, _⟩ := k_XE X9.1.1
  have ks2 := (k_XE Q.2).2.1.1.1
  have nn := s_Vn X9.1.1.2.2
  have nn2 := s_Vn Q.2.2.2
  intro n
  induction n with
  | zero => intro t l2 l3 _ _ _ _; omega
  | succ n ih =>
    intro t l2 l3 h2 h3 ht hn
    show Ok (F_X11_falls_b53 (F_X11_falls_L53 n) (some 2) l2 l3 M) _
    delta F_X11_falls_b53 F_X11_falls_b100
    refine x_gR g2 r11 (x_gI ke e6 ?_)
    have bn := bs_next (f := fun t => s_hs ρ t != 0 && !(s_hs σ t != 0)) h3 (by omega)
    by_cases c : ρ 1 ≤ l3
    · have := i_le c
      have et : t = hs_n ρ := by omega
      subst et
      exact Ok_t c (Ok_s ⟨h2, Q.1⟩)
    · have := i_nle c
      refine Ok_e c (x_gR g2 (G_r5 G) (x_gR g2 r11 (x_gO ks (x_eq (C_holdersOf X9.1.1 h3 (by omega)) ?_))))
      refine Ok_i (fun d => ?_) (fun d => ?_)
      · refine ih (t + 1) ?_ (i_nx h3 (by omega)) (by omega) (by omega)
        rw [bn, h2]
        simp [d]
      · refine x_gR g2 (G_r6 G) (x_gR g2 r11 (x_gO ks2 (x_eq (C_holdersOf Q.2 h3 (by omega)) ?_)))
        refine Ok_i (fun d2 => ?_) (fun d2 => ?_)
        · refine ih (t + 1) ?_ (i_nx h3 (by omega)) (by omega) (by omega)
          rw [bn, h2]
          simp [d, d2]
          rfl
        · refine ih (t + 1) ?_ (i_nx h3 (by omega)) (by omega) (by omega)
          rw [bn, h2]
          simp [d, d2]
theorem C_falls_L23 {M0 : gM} {e h : Nat} {r : s_Ru} {ρ : Nat → Int32} {l1 : Int32} (B : q_B M0 e r ρ) (V : s_V ρ) (h1 : l1.toInt = (h : Int)) (hh : h < hs_m ρ) : ∀ (n t : Nat) {l2 : Int32} {M : gM}, q_C M0 M e (s_fg ρ h t) → l2.toInt = (t : Int) → t ≤ hs_n ρ → hs_n ρ - t < n → Ok (F_X11_falls_L23 n (some 2) l1 l2 M) (fun q => q.1 = s_bs (fun t => s_hs ρ t != 0 && !(s_hs (s_fg ρ h (hs_n ρ)) t != 0)) (hs_n ρ) ∧ q_F M0 q.2) := by
  have nn := s_Vn V
  have wh := B.1.2.2.1.2
  intro n
  induction n with
  | zero => intro t l2 M _ _ _ _; omega
  | succ n ih =>
    intro t l2 M Q h2 ht hn
    obtain ⟨⟨G, r11⟩, X9⟩ := q_G B Q.1
    have g2 := G_k2 G
    obtain ⟨⟨ke, ⟨e6, e7⟩, _⟩, _⟩ := k_XE X9.1.1
    have ks2 := (k_XE Q.2).2.1.1.1
    have fn := fg_nm (σ := ρ) (h := h) t
    show Ok (F_X11_falls_b23 (F_X11_falls_L23 n) (some 2) l1 l2 M) _
    delta F_X11_falls_b23
    refine x_gR g2 r11 (x_gI ke e6 ?_)
    by_cases c : ρ 1 ≤ l2
    · have := i_le c
      have et : t = hs_n ρ := by omega
      subst et
      exact Ok_t c (C_falls_L53 B Q fn.1 g_fuel 0 (l2 := 0) (l3 := 0) rfl rfl (Nat.zero_le _) (n_fu (by omega)))
    · have := i_nle c
      refine Ok_e c (x_gR g2 (G_r6 G) (x_gO ks2 ?_))
      refine Ok_b (C_forgetX (a := 0) Q.2 (by unfold w_h at wh; omega) h1 h2 (by omega) (by omega)) (fun M5 z => ?_)
      exact ih (t + 1) ⟨q_F_t Q.1 (q_F_s z.1), z.2⟩ (i_nx h2 (by omega)) (by omega) (by omega)
theorem E_falls_L90 {r : s_Ru} {ρ σ : Nat → Int32} {M : gM} {l2 : Int32} (V : s_V ρ) (Q : e_Q r ρ M σ) (hn1 : hs_n σ = hs_n ρ) (h2 : l2 = s_bs (fun t => s_hs ρ t != 0) (hs_n ρ)) : ∀ (n t : Nat) {l3 l4 : Int32}, l3 = s_bs (fun t => s_hs σ t != 0) t → l4.toInt = (t : Int) → t ≤ hs_n ρ → hs_n ρ - t < n → Ok (F_X12_falls_L90 n (some 175) l2 l3 l4 M) (fun q => q.1 = s_bs (fun t => s_hs ρ t != 0 && !(s_hs σ t != 0)) (hs_n ρ) ∧ ∀ j, j < 157 → q.2.2.1 185 j = ρ j) := by
  have X := Q.1.1
  have nn := s_Vn X.2.2
  intro n
  induction n with
  | zero => intro t l3 l4 _ _ _ _; omega
  | succ n ih =>
    intro t l3 l4 h3 h4 ht hn
    show Ok (F_X12_falls_b90 (F_X12_falls_L90 n) (some 175) l2 l3 l4 M) _
    delta F_X12_falls_b90 F_X12_falls_b119
    rw [e_sd X (k := 1) rfl (by decide)]
    have bn := bs_next (f := fun t => s_hs σ t != 0) h4 (by omega)
    by_cases c : σ 1 ≤ l4
    · have := i_le c
      have et : t = hs_n ρ := by omega
      refine Ok_t c (x_eq (e_gO X.1) (Ok_b (E_q_lays V Q) (fun M3 z => ?_)))
      refine Ok_s ⟨?_, q_done z.1⟩
      show l2 &&& (l3 ^^^ (-1 : Int32)) = _
      rw [h2, h3, et]
      exact bs_diff (by omega)
    · have := i_nle c
      refine Ok_e c (x_eq (e_gO X.1) (x_eq (E_holdersOf X h4 (by omega)) ?_))
      refine Ok_i (fun d => ?_) (fun d => ?_)
      · refine ih (t + 1) ?_ (i_nx h4 (by omega)) (by omega) (by omega)
        rw [bn, h3]
        simp [d]
      · refine ih (t + 1) ?_ (i_nx h4 (by omega)) (by omega) (by omega)
        rw [bn, h3]
        simp [d]
        rfl
theorem E_falls_L61 {r : s_Ru} {ρ : Nat → Int32} {h : Nat} {l1 l2 : Int32} (V : s_V ρ) (h1 : l1.toInt = (h : Int)) (hh : h < hs_m ρ) (h2 : l2 = s_bs (fun t => s_hs ρ t != 0) (hs_n ρ)) : ∀ (n t : Nat) {l4 : Int32} {M : gM}, e_Q r ρ M (s_fg ρ h t) → l4.toInt = (t : Int) → t ≤ hs_n ρ → hs_n ρ - t < n → Ok (F_X12_falls_L61 n (some 175) l1 l2 (0 : Int32) l4 M) (fun q => q.1 = s_bs (fun t => s_hs ρ t != 0 && !(s_hs (s_fg ρ h (hs_n ρ)) t != 0)) (hs_n ρ) ∧ ∀ j, j < 157 → q.2.2.1 185 j = ρ j) := by
  have nn := s_Vn V
  intro n
  induction n with
  | zero => intro t l4 M _ _ _ _; omega
  | succ n ih =>
    intro t l4 M Q h4 ht hn
    have X := Q.1.1
    have fn := fg_nm (σ := ρ) (h := h) t
    have nn1 := s_Vn X.2.2
    show Ok (F_X12_falls_b61 (F_X12_falls_L61 n) (some 175) l1 l2 (0 : Int32) l4 M) _
    delta F_X12_falls_b61
    rw [e_sd X (k := 1) rfl (by decide)]
    by_cases c : s_fg ρ h t 1 ≤ l4
    · have := i_le c
      have et : t = hs_n ρ := by omega
      subst et
      exact Ok_t c (E_falls_L90 V Q fn.1 h2 g_fuel 0 (l3 := 0) (l4 := 0) rfl rfl (Nat.zero_le _) (n_fu (by omega)))
    · have := i_nle c
      refine Ok_e c (x_eq (e_gO X.1) ?_)
      refine Ok_b (E_knowsNow X h1 h4 (by omega) (by omega) (by decide) (fun z => absurd z (by decide))) (fun M4 z => ?_)
      refine ih (t + 1) ⟨⟨z.2, e_I_m Q.1.2 z.1 (by decide)⟩, fun j hj => by rw [y_fa (i := 188) z.1 (by decide) (by decide) j]; exact Q.2.1 j hj, fun j hj => ?_⟩ (i_nx h4 (by omega)) (by omega) (by omega)
      exact (kw_hi (by omega) (by omega) hj).trans (Q.2.2 j hj)
theorem E_falls_L21 {r : s_Ru} {ρ : Nat → Int32} {h : Nat} {l1 : Int32} {M : gM} (V : s_V ρ) (h1 : l1.toInt = (h : Int)) (hh : h < hs_m ρ) (Q : e_Q r ρ M ρ) : ∀ (n t : Nat) {l2 l4 : Int32}, l2 = s_bs (fun t => s_hs ρ t != 0) t → l4.toInt = (t : Int) → t ≤ hs_n ρ → hs_n ρ - t < n → Ok (F_X12_falls_L21 n (some 175) l1 l2 (0 : Int32) l4 M) (fun q => q.1 = s_bs (fun t => s_hs ρ t != 0 && !(s_hs (s_fg ρ h (hs_n ρ)) t != 0)) (hs_n ρ) ∧ ∀ j, j < 157 → q.2.2.1 185 j = ρ j) := by
  have X := Q.1.1
  have nn := s_Vn V
  intro n
  induction n with
  | zero => intro t l2 l4 _ _ _ _; omega
  | succ n ih =>
    intro t l2 l4 h2 h4 ht hn
    show Ok (F_X12_falls_b21 (F_X12_falls_L21 n) (some 175) l1 l2 (0 : Int32) l4 M) _
    delta F_X12_falls_b21 F_X12_falls_b50
    rw [e_sd X (k := 1) rfl (by decide)]
    have bn := bs_next (f := fun t => s_hs ρ t != 0) h4 (by omega)
    by_cases c : ρ 1 ≤ l4
    · have := i_le c
      have et : t = hs_n ρ := by omega
      subst et
      exact Ok_t c (E_falls_L61 V h1 hh h2 g_fuel 0 (l4 := 0) Q rfl (Nat.zero_le _) (n_fu (by omega)))
    · have := i_nle c
      refine Ok_e c (x_eq (e_gO X.1) (x_eq (E_holdersOf X h4 (by omega)) ?_))
      refine Ok_i (fun d => ?_) (fun d => ?_)
      · refine ih (t + 1) ?_ (i_nx h4 (by omega)) (by omega) (by omega)
        rw [bn, h2]
        simp [d]
      · refine ih (t + 1) ?_ (i_nx h4 (by omega)) (by omega) (by omega)
        rw [bn, h2]
        simp [d]
        rfl
theorem lw9_falls {L : Nat} {M : gM} {l1 : Int32} (R : lw9 L M) : lw_42 L M (F_X11_falls (some 2) l1 M) (F_X12_falls (some 175) l1) := by
  have R8 := R.1
  have G := R8.2
  have hl := lw8_len R8.1.1.1
  refine lw9_qry R (S_X11_falls R8.1.1.1.1.1.1 R8.1.1.1.2.1.1.1) (fun M1 H W => S_X12_falls H) (by decide) (by decide) (by decide) (by decide) (fun e σ nx sz P I rc Rr C h6 hf => ?_)
  have X := C.1.1.2
  have k2 := G_k2 G
  have V := X.1.1.2.2
  have B := q_B_of G hl C h6 hf
  have nn := s_Vn V
  by_cases kH : s_iH σ l1 = true
  · obtain ⟨a, a1, a2, a3, _⟩ := s_iH_n V kH
    refine ⟨s_bs (fun t => s_hs σ t != 0 && !(s_hs (s_fg σ a (hs_n σ)) t != 0)) (hs_n σ), ?_, fun M1 X1 E1 f1 _ => ?_⟩
    · delta F_X11_falls F_X11_falls_b0
      refine x_gO k2 (x_eq (C_isHeirX k2 C.1.1.1 X.1.1) ?_)
      rw [if_pos kH, if_neg (by decide)]
      refine x_gR k2 (G_r6 G) (x_gR k2 (G_r5 G) (x_gO (k_LS_of G (s := 14) (by decide)).1.1 ?_))
      refine Ok_b (C_q_copy B q_F_r) (fun M6 q => ?_)
      exact Ok_w (C_falls_L23 B V a1 a2 g_fuel 0 (l2 := 0) q rfl (Nat.zero_le _) (n_fu (by omega))) (fun x z => ⟨z.1, q_F_w z.2⟩)
    · have J := E_inForce E1 h6 (by rw [f1]; exact hf)
      rw [f1] at J
      delta F_X12_falls F_X12_falls_b0
      rw [e_gO X1.1, Option.bind_some, E_isHeirX X1, Option.bind_some, if_pos kH, if_neg (by decide)]
      refine Ok_b (E_q_keeps X1 J) (fun M4 z => ?_)
      exact E_falls_L21 V a1 a2 z.1 g_fuel 0 (l2 := 0) (l4 := 0) rfl rfl (Nat.zero_le _) (n_fu (by omega))
  · refine lw9_qn (w := -1) ?_ (fun M1 X1 => ?_)
    · delta F_X11_falls F_X11_falls_b0
      rw [t_gO k2, Option.bind_some, C_isHeirX k2 C.1.1.1 X.1.1, Option.bind_some, if_neg kH, if_pos rfl]
    · delta F_X12_falls F_X12_falls_b0
      rw [e_gO X1.1, Option.bind_some, E_isHeirX X1, Option.bind_some, if_neg kH, if_pos rfl]
-- 7zan.examine
/-! EXAMINE -/
def s_xa (σ : Nat → Int32) (i : Nat) : Nat := s_al (s_ak σ (i / hs_n σ) (i % hs_n σ))
def s_bx (σ : Nat → Int32) : Nat → Nat
  | 0 => 0
  | i + 1 => if s_xa σ (i + 1) < s_xa σ (s_bx σ i) then i + 1 else s_bx σ i
theorem bx_le {σ : Nat → Int32} : ∀ k, s_bx σ k ≤ k := by
  intro k
  induction k with
  | zero => exact Nat.le_refl _
  | succ k ih =>
    unfold s_bx
    split
    · exact Nat.le_refl _
    · omega
theorem ak_V {σ : Nat → Int32} {h t : Nat} (V : s_V σ) (ht : t < 7) : s_V (s_ak σ h t) := by
  unfold s_ak
  split
  · exact kw_V V ht (by decide) (fun z => absurd z (by decide))
  · exact V
theorem ak_hi {σ : Nat → Int32} {h t j : Nat} (hh : h < 7) (ht : t < 7) (hj : 157 ≤ j) : s_ak σ h t j = σ j := by
  unfold s_ak
  split
  · exact kw_hi hh ht hj
  · rfl
theorem C_behind {M0 M : gM} {e a b : Nat} {r : s_Ru} {ρ : Nat → Int32} {l1 : Int32} (B : q_B M0 e r ρ) (f : q_F M0 M) (V : s_V ρ) (h1 : l1.toInt = ((7 * a + b : Nat) : Int)) (ha : a < hs_m ρ) (hb : b < hs_n ρ) : Ok (F_X11_heldBehindAsk (some 2) l1 M) (fun q => q.1 = Int32.ofNat (s_al (s_ak ρ a b)) ∧ q_F M0 q.2) := by
  obtain ⟨⟨G, r11⟩, X9⟩ := q_G B f
  have g2 := G_k2 G
  have nn := s_Vn V
  have wh := X9.1.2
  delta F_X11_heldBehindAsk F_X11_heldBehindAsk_b0
  refine x_gR g2 (G_r6 G) (x_gR g2 (G_r5 G) (x_gO (k_LS_of G (s := 14) (by decide)).1.1 ?_))
  refine Ok_b (C_q_copy B f) (fun M4 q => ?_)
  obtain ⟨⟨G4, r4⟩, _⟩ := q_G B q.1
  have d7 := i_div (x := l1) (c := (7 : Int32)) (n := 7) rfl (by omega) (by omega)
  have m7 := i_mod (x := l1) (c := (7 : Int32)) (n := 7) rfl (by omega) (by omega)
  refine x_gR (G_k2 G4) (G_r6 G4) (x_gR (G_k2 G4) r4 (x_gO (k_LS_of G4 (s := 14) (by decide)).1.1 ?_))
  refine Ok_b (C_isAsked q.2 (by unfold w_h at wh; omega) (h := a) (t := b) (by omega) (by omega) ha (by omega)) (fun M8 z => ?_)
  have q8 : q_C M0 M8 e (s_ak ρ a b) := ⟨q_F_t q.1 (q_F_s z.1), z.2⟩
  obtain ⟨⟨G8, r8⟩, _⟩ := q_G B q8.1
  refine x_gR (G_k2 G8) (G_r6 G8) (x_gR (G_k2 G8) r8 (x_gO (k_LS_of G8 (s := 14) (by decide)).1.1 (x_eq (C_heldTogether q8.2) ?_)))
  exact Ok_s ⟨rfl, q8.1⟩
theorem xa_of {σ : Nat → Int32} {a b : Nat} (hb : b < hs_n σ) : s_xa σ (hs_n σ * a + b) = s_al (s_ak σ a b) := by
  unfold s_xa
  rw [Nat.mul_add_div (by omega), Nat.div_eq_of_lt hb, Nat.mul_add_mod, Nat.mod_eq_of_lt hb, Nat.add_zero]
def s_xw (σ : Nat → Int32) (l1 : Int32) : Int32 := if l1 = 2 then Int32.ofNat (s_xa σ (s_bx σ (hs_n σ * hs_m σ - 1))) else if l1 = 0 then Int32.ofNat (s_bx σ (hs_n σ * hs_m σ - 1) / hs_n σ) else Int32.ofNat (s_bx σ (hs_n σ * hs_m σ - 1) % hs_n σ)
theorem xa_le {σ : Nat → Int32} (V : s_V σ) (hn : 0 < hs_n σ) (i : Nat) : s_xa σ i ≤ 49 := by
  have nn := s_Vn V
  have := Nat.mod_lt i hn
  exact s_al_le (ak_V V (by omega))
theorem C_examine_L55 {M0 : gM} {e : Nat} {r : s_Ru} {ρ : Nat → Int32} {l1 : Int32} (B : q_B M0 e r ρ) (V : s_V ρ) (hn0 : 0 < hs_n ρ) (hm0 : 0 < hs_m ρ) : ∀ (n a b k : Nat) {l2 l3 l4 : Int32} {M : gM}, q_F M0 M → b < 7 → a ≤ hs_m ρ → (a < hs_m ρ ∨ b = 0) → k + 1 = hs_n ρ * a + (if b < hs_n ρ then b else hs_n ρ) → l2.toInt = ((7 * (s_bx ρ k / hs_n ρ) + s_bx ρ k % hs_n ρ : Nat) : Int) → l3 = Int32.ofNat (s_xa ρ (s_bx ρ k)) → l4.toInt = ((7 * a + b : Nat) : Int) → 7 * hs_m ρ - (7 * a + b) < n → Ok (F_X11_examine_L55 n (some 2) l1 l2 l3 l4 M) (fun q => q.1 = s_xw ρ l1 ∧ q_F M0 q.2) := by
  have nn := s_Vn V
  have z7 : (7 : Int32).toInt = 7 := rfl
  have mul7 := i_mulR (c := (7 : Int32)) (x := ρ 2) (n := 7) rfl (by omega) (by omega)
  intro n
  induction n with
  | zero => intro a b k l2 l3 l4 M _ _ _ _ _ _ _ _ _; omega
  | succ n ih =>
    intro a b k l2 l3 l4 M f hb7 ham hab hk h2 h3 h4 hn
    obtain ⟨⟨G, r11⟩, X9⟩ := q_G B f
    have g2 := G_k2 G
    obtain ⟨⟨ke, ⟨e6, e7⟩, _⟩, _⟩ := k_XE X9.1.1
    have bl := bx_le (σ := ρ) k
    have na : hs_n ρ * a ≤ hs_n ρ * hs_m ρ := Nat.mul_le_mul_left _ ham
    have nm49 : hs_n ρ * hs_m ρ ≤ 49 := Nat.mul_le_mul nn.1.2 nn.2.2
    have kk : k < hs_n ρ * hs_m ρ := by
      rcases hab with z | z
      · have : hs_n ρ * (a + 1) ≤ hs_n ρ * hs_m ρ := Nat.mul_le_mul_left _ z
        rw [Nat.mul_succ] at this
        split at hk <;> omega
      · rw [z, if_pos hn0] at hk
        omega
    have dv : s_bx ρ k / hs_n ρ < hs_m ρ := Nat.div_lt_of_lt_mul (by omega)
    have md := Nat.mod_lt (s_bx ρ k) hn0
    show Ok (F_X11_examine_b55 (F_X11_examine_L55 n) (some 2) l1 l2 l3 l4 M) _
    delta F_X11_examine_b55 F_X11_examine_b105
    refine x_gR g2 r11 (x_gI ke e7 ?_)
    by_cases c : ρ 2 * (7 : Int32) ≤ l4
    · have := i_le c
      have ea : a = hs_m ρ := by omega
      have eb : b = 0 := by omega
      have ek : k = hs_n ρ * hs_m ρ - 1 := by
        rw [eb, if_pos hn0, ea] at hk
        omega
      refine Ok_t c ?_
      have d7 := i_div (x := l2) (c := (7 : Int32)) (n := 7) rfl (by omega) (by omega)
      have m7 := i_mod (x := l2) (c := (7 : Int32)) (n := 7) rfl (by omega) (by omega)
      unfold s_xw
      rw [← ek]
      obtain ⟨A, hA⟩ : ∃ A, A = s_bx ρ k / hs_n ρ := ⟨_, rfl⟩
      obtain ⟨D, hD⟩ : ∃ D, D = s_bx ρ k % hs_n ρ := ⟨_, rfl⟩
      rw [← hA, ← hD] at h2
      rw [← hA] at dv
      rw [← hD] at md
      have y1 : (l2 / (7 : Int32)).toInt = (A : Int) := by omega
      have y2 : (l2 - l2 / (7 : Int32) * (7 : Int32)).toInt = (D : Int) := by omega
      rw [← hA, ← hD]
      by_cases q2 : l1 = 2
      · rw [if_pos q2, if_pos q2]
        exact Ok_s ⟨h3, f⟩
      · rw [if_neg q2, if_neg q2]
        by_cases q0 : l1 = 0
        · rw [if_pos q0, if_pos q0]
          exact Ok_s ⟨i_of y1 (by omega), f⟩
        · rw [if_neg q0, if_neg q0]
          exact Ok_s ⟨i_of y2 (by omega), f⟩
    · have := i_nle c
      have ham2 : a < hs_m ρ := by omega
      have m4 := i_mod (x := l4) (c := (7 : Int32)) (n := 7) rfl (by omega) (by omega)
      have next : ∀ {l2 l3 : Int32} {M : gM} (k : Nat), q_F M0 M → k + 1 = hs_n ρ * a + (if b < hs_n ρ then b + 1 else hs_n ρ) → l2.toInt = ((7 * (s_bx ρ k / hs_n ρ) + s_bx ρ k % hs_n ρ : Nat) : Int) → l3 = Int32.ofNat (s_xa ρ (s_bx ρ k)) → Ok (F_X11_examine_L55 n (some 2) l1 l2 l3 (l4 + 1) M) (fun q => q.1 = s_xw ρ l1 ∧ q_F M0 q.2) := by
        intro l2 l3 M k f hk h2 h3
        have nx := i_nx h4 (by omega)
        by_cases c6 : b = 6
        · refine ih (a + 1) 0 k f (by omega) (by omega) (Or.inr rfl) ?_ h2 h3 (by rw [nx]; omega) (by omega)
          rw [Nat.mul_succ, if_pos hn0, hk]
          split <;> omega
        · refine ih a (b + 1) k f (by omega) (by omega) (Or.inl ham2) ?_ h2 h3 (by rw [nx]; omega) (by omega)
          rw [hk]
          by_cases c1 : b < hs_n ρ
          · rw [if_pos c1]
            split <;> omega
          · rw [if_neg c1, if_neg (by omega)]
      refine Ok_e c (x_gR g2 r11 (x_gI ke e6 ?_))
      refine Ok_i (fun d => ?_) (fun d => ?_)
      · have := i_le d
        refine next k f ?_ h2 h3
        rw [hk, if_neg (by omega), if_neg (by omega)]
      · have := i_nle d
        have hb : b < hs_n ρ := by omega
        rw [if_pos hb] at hk
        refine x_gO g2 (Ok_b (C_behind B f V h4 ham2 hb) (fun q z => ?_))
        obtain ⟨v6, M7⟩ := q
        obtain ⟨z1, z2⟩ := z
        dsimp only at z1 z2 ⊢
        rw [← xa_of hb, ← hk] at z1
        have o1 : v6.toInt = (s_xa ρ (k + 1) : Int) := by rw [z1]; exact i_ofNat (by have := xa_le V hn0 (k + 1); omega)
        have o2 : l3.toInt = (s_xa ρ (s_bx ρ k) : Int) := by rw [h3]; exact i_ofNat (by have := xa_le V hn0 (s_bx ρ k); omega)
        have un : s_bx ρ (k + 1) = if s_xa ρ (k + 1) < s_xa ρ (s_bx ρ k) then k + 1 else s_bx ρ k := rfl
        refine Ok_i (fun d2 => ?_) (fun d2 => ?_)
        · have := i_le d2
          rw [if_neg (by omega)] at un
          refine next (k + 1) z2 (by rw [if_pos hb]; omega) (by rw [un]; exact h2) (by rw [un]; exact h3)
        · have := i_nle d2
          rw [if_pos (by omega)] at un
          refine next (k + 1) z2 (by rw [if_pos hb]; omega) ?_ (by rw [un]; exact z1)
          rw [un, hk, Nat.mul_add_div (by omega), Nat.div_eq_of_lt hb, Nat.mul_add_mod, Nat.mod_eq_of_lt hb, Nat.add_zero]
          exact h4
theorem E_examine_L34 {r : s_Ru} {ρ : Nat → Int32} {l1 : Int32} (V : s_V ρ) (hl : 0 ≤ l1.toInt ∧ l1.toInt ≤ 2) : ∀ (n i : Nat) {l2 l3 l4 : Int32} {M : gM}, e_Q r ρ M ρ → (i = 0 ∧ l2 = -2 ∨ ∃ u, i = u + 1 ∧ l2.toInt = (s_bx ρ u : Int) ∧ l3 = Int32.ofNat (s_xa ρ (s_bx ρ u))) → l4.toInt = (i : Int) → i ≤ hs_n ρ * hs_m ρ → hs_n ρ * hs_m ρ - i < n → Ok (F_X12_examine_L34 n (some 175) l1 l2 l3 l4 M) (fun q => q.1 = (if hs_n ρ * hs_m ρ = 0 then -2 else s_xw ρ l1) ∧ ∀ j, j < 157 → q.2.2.1 185 j = ρ j) := by
  have nn := s_Vn V
  have z0 : (0 : Int32).toInt = 0 := rfl
  have z1 : (1 : Int32).toInt = 1 := rfl
  have z2 : (2 : Int32).toInt = 2 := rfl
  have nm49 : hs_n ρ * hs_m ρ ≤ 49 := Nat.mul_le_mul nn.1.2 nn.2.2
  have pr : (ρ 2).toInt * (ρ 1).toInt = ((hs_n ρ * hs_m ρ : Nat) : Int) := by
    rw [nn.1.1, nn.2.1, Int.natCast_mul, Int.mul_comm]
  have mm := i_mul (x := ρ 2) (y := ρ 1) (by omega) (by omega)
  rw [pr] at mm
  intro n
  induction n with
  | zero => intro i l2 l3 l4 M _ _ _ _ _; omega
  | succ n ih =>
    intro i l2 l3 l4 M Q h1 h4 hi hn
    have X := Q.1.1
    show Ok (F_X12_examine_b34 (F_X12_examine_L34 n) (some 175) l1 l2 l3 l4 M) _
    delta F_X12_examine_b34 F_X12_examine_b98 F_X12_examine_b104
    rw [e_sd X (k := 2) rfl (by decide), e_sd X (k := 1) rfl (by decide)]
    by_cases c : ρ 2 * ρ 1 ≤ l4
    · have := i_le c
      refine Ok_t c ?_
      rcases h1 with ⟨a, b⟩ | ⟨u, a, b, b2⟩
      · have p0 : hs_n ρ * hs_m ρ = 0 := by omega
        rw [if_pos p0, b]
        exact Ok_e (by decide) (Ok_s ⟨rfl, q_done Q⟩)
      · have bu := bx_le (σ := ρ) u
        have hn0 : 0 < hs_n ρ := Nat.pos_of_ne_zero (fun z => by rw [z, Nat.zero_mul] at hi; omega)
        have eu : u = hs_n ρ * hs_m ρ - 1 := by omega
        have n0 : ¬ ρ 1 = 0 := fun z => by rw [z] at nn; omega
        have dd := i_div (x := l2) (c := ρ 1) nn.1.1 (by omega) (by omega)
        have mo := i_mod (x := l2) (c := ρ 1) nn.1.1 (by omega) (by omega)
        rw [b] at dd mo
        rw [← Int.natCast_ediv] at dd
        rw [← Int.natCast_emod] at mo
        have ld := Nat.div_le_self (s_bx ρ u) (hs_n ρ)
        have lm := Nat.mod_lt (s_bx ρ u) hn0
        have p0 : ¬ hs_n ρ * hs_m ρ = 0 := by omega
        rw [if_neg p0]
        refine Ok_t (Int32.le_iff_toInt_le.mpr (by omega)) ?_
        unfold s_xw
        rw [← eu]
        by_cases q0 : l1 = 0
        · rw [if_pos q0, if_neg (by rw [q0]; decide), if_pos q0, e_sd X (k := 1) rfl (by decide), if_neg n0]
          exact Ok_s ⟨i_of dd (by omega), q_done Q⟩
        · by_cases q1 : l1 = 1
          · rw [if_neg q0, if_pos q1, if_neg (by rw [q1]; decide), if_neg q0, e_sd X (k := 1) rfl (by decide), if_neg n0]
            exact Ok_s ⟨i_of mo (by omega), q_done Q⟩
          · have q2 : l1 = 2 := by
              have a0 := i_ne q0
              have a1 := i_ne q1
              exact Int32.toInt_inj.mp (by omega)
            rw [if_neg q0, if_neg q1, if_pos q2]
            exact Ok_s ⟨b2, q_done Q⟩
    · have := i_nle c
      have hn0 : 0 < hs_n ρ := Nat.pos_of_ne_zero (fun z => by rw [z, Nat.zero_mul] at mm; rw [mm] at this; omega)
      have n0 : ¬ ρ 1 = 0 := fun z => by rw [z] at nn; omega
      have dd := i_div (x := l4) (c := ρ 1) nn.1.1 (by omega) (by omega)
      have mo := i_mod (x := l4) (c := ρ 1) nn.1.1 (by omega) (by omega)
      rw [h4] at dd mo
      rw [← Int.natCast_ediv] at dd
      rw [← Int.natCast_emod] at mo
      have ld : i / hs_n ρ < hs_m ρ := Nat.div_lt_of_lt_mul (by omega)
      have lm := Nat.mod_lt i hn0
      refine Ok_e c ?_
      rw [e_sd X (k := 1) rfl (by decide), if_neg n0, e_sd X (k := 1) rfl (by decide), if_neg n0]
      refine x_eq (e_gO X.1) (Ok_b (E_asks X dd mo (by omega) (by omega)) (fun q z => ?_))
      obtain ⟨v18, M19⟩ := q
      obtain ⟨_, f19, X19⟩ := z
      dsimp only at f19 X19 ⊢
      have Q19 : e_Q r ρ M19 (s_ak ρ (i / hs_n ρ) (i % hs_n ρ)) := ⟨⟨X19, e_I_m Q.1.2 f19 (by decide)⟩, fun j hj => by rw [y_fa (i := 188) f19 (by decide) (by decide) j]; exact Q.2.1 j hj, fun j hj => ak_hi (by omega) (by omega) hj⟩
      rw [e_gC X19.1, Option.bind_some]
      refine x_eq (E_allHolds X19) (Ok_b (E_q_lays V Q19) (fun M22 z => ?_))
      have Q22 := z.1
      have o1 : (Int32.ofNat (s_xa ρ i)).toInt = (s_xa ρ i : Int) := i_ofNat (by have := xa_le V hn0 i; omega)
      have fold : Int32.ofNat (s_al (s_ak ρ (i / hs_n ρ) (i % hs_n ρ))) = Int32.ofNat (s_xa ρ i) := rfl
      rw [fold]
      rcases h1 with ⟨a, b⟩ | ⟨u, a, b, b2⟩
      · subst a
        refine Ok_t (by rw [b]; decide) ?_
        exact ih 1 Q22 (Or.inr ⟨0, rfl, h4, rfl⟩) (i_nx h4 (by omega)) (by omega) (by omega)
      · subst a
        have bu := bx_le (σ := ρ) u
        have o2 : l3.toInt = (s_xa ρ (s_bx ρ u) : Int) := by rw [b2]; exact i_ofNat (by have := xa_le V hn0 (s_bx ρ u); omega)
        have un : s_bx ρ (u + 1) = if s_xa ρ (u + 1) < s_xa ρ (s_bx ρ u) then u + 1 else s_bx ρ u := rfl
        refine Ok_e (fun z => by have := i_lt z; omega) ?_
        refine Ok_i (fun d => ?_) (fun d => ?_)
        · have := i_lt d
          rw [if_pos (by omega)] at un
          exact ih (u + 1 + 1) Q22 (Or.inr ⟨u + 1, rfl, by rw [un]; exact h4, by rw [un]⟩) (i_nx h4 (by omega)) (by omega) (by omega)
        · have := i_nlt d
          rw [if_neg (by omega)] at un
          exact ih (u + 1 + 1) Q22 (Or.inr ⟨u + 1, rfl, by rw [un]; exact b, by rw [un]; exact b2⟩) (i_nx h4 (by omega)) (by omega) (by omega)
theorem lw9_examine {L : Nat} {M : gM} {l1 : Int32} (R : lw9 L M) : lw_42 L M (F_X11_examine (some 2) l1 M) (F_X12_examine (some 175) l1) := by
  have R8 := R.1
  have G := R8.2
  have hl := lw8_len R8.1.1.1
  refine lw9_qry R (S_X11_examine R8.1.1.1.1.1.1 R8.1.1.1.2.1.1.1) (fun M1 H W => S_X12_examine H) (by decide) (by decide) (by decide) (by decide) (fun e σ nx sz P I rc Rr C h6 hf => ?_)
  have X := C.1.1.2
  have k2 := G_k2 G
  have V := X.1.1.2.2
  have Q := X.2.2
  have z0 : (0 : Int32).toInt = 0 := rfl
  have z2 : (2 : Int32).toInt = 2 := rfl
  have B := q_B_of G hl C h6 hf
  have nn := s_Vn V
  have ke : g_k M e = (1, 0) := X.1.1.1.1.1
  have e6 : M.2.1 e 6 = σ 1 := X.1.1.2.1.1.1.1.1
  have e7 : M.2.1 e 7 = σ 2 := X.1.1.2.1.1.1.1.2
  have t5 := X.2.1
  by_cases c : 0 ≤ l1.toInt ∧ l1.toInt ≤ 2
  · by_cases kH : 0 < (σ 0).toInt
    · rw [if_pos kH] at t5
      refine ⟨(if hs_n σ * hs_m σ = 0 then -2 else s_xw σ l1), ?_, fun M1 X1 E1 f1 _ => ?_⟩
      · delta F_X11_examine F_X11_examine_b0 F_X11_examine_b41
        rw [if_neg (fun z => by have := i_lt z; omega), if_neg (fun z => by have := i_lt z; omega)]
        refine x_gR k2 C.1.1.1 (x_gI ke t5 ?_)
        rw [if_neg (by decide)]
        refine x_gR k2 C.1.1.1 (x_gI ke e7 ?_)
        by_cases m0 : σ 2 = 0
        · have e0 : hs_m σ = 0 := by have : (σ 2).toInt = 0 := by rw [m0]; rfl
                                     omega
          rw [e0, Nat.mul_zero, if_pos rfl]
          exact Ok_t m0 (Ok_s ⟨rfl, w_F_r⟩)
        · have := i_ne m0
          refine Ok_e m0 (x_gR k2 C.1.1.1 (x_gI ke e6 ?_))
          by_cases n0 : σ 1 = 0
          · have e0 : hs_n σ = 0 := by have : (σ 1).toInt = 0 := by rw [n0]; rfl
                                       omega
            rw [e0, Nat.zero_mul, if_pos rfl]
            exact Ok_t n0 (Ok_s ⟨rfl, w_F_r⟩)
          · have := i_ne n0
            have p1 : 0 < hs_n σ := by omega
            have p2 : 0 < hs_m σ := by omega
            have pp : 0 < hs_n σ * hs_m σ := Nat.mul_pos p1 p2
            have p0 : ¬ hs_n σ * hs_m σ = 0 := by omega
            rw [if_neg p0]
            refine Ok_e n0 (x_gO k2 ?_)
            refine Ok_b (C_behind (a := 0) (b := 0) (l1 := 0) B q_F_r V rfl p2 p1) (fun q z => ?_)
            obtain ⟨v8, M9⟩ := q
            obtain ⟨z1, z2⟩ := z
            dsimp only at z1 z2 ⊢
            have xz := xa_of (σ := σ) (a := 0) (b := 0) p1
            rw [Nat.mul_zero] at xz
            by_cases b1 : 1 < hs_n σ
            · exact Ok_w (C_examine_L55 B V p1 p2 g_fuel 0 1 0 (l4 := 1) z2 (by omega) (by omega) (Or.inl p2) (by rw [if_pos b1]; omega) (by show (0 : Int) = ((7 * (0 / hs_n σ) + 0 % hs_n σ : Nat) : Int); rw [Nat.zero_div, Nat.zero_mod]; rfl) (by rw [z1, ← xz]; rfl) rfl (n_fu (by omega))) (fun x z => ⟨z.1, q_F_w z.2⟩)
            · exact Ok_w (C_examine_L55 B V p1 p2 g_fuel 0 1 0 (l4 := 1) z2 (by omega) (by omega) (Or.inl p2) (by rw [if_neg b1]; omega) (by show (0 : Int) = ((7 * (0 / hs_n σ) + 0 % hs_n σ : Nat) : Int); rw [Nat.zero_div, Nat.zero_mod]; rfl) (by rw [z1, ← xz]; rfl) rfl (n_fu (by omega))) (fun x z => ⟨z.1, q_F_w z.2⟩)
      · have J := E_inForce E1 h6 (by rw [f1]; exact hf)
        rw [f1] at J
        have nm49 : hs_n σ * hs_m σ ≤ 49 := Nat.mul_le_mul nn.1.2 nn.2.2
        delta F_X12_examine F_X12_examine_b0
        rw [e_gO X1.1, Option.bind_some, E_isHouseX X1, Option.bind_some, if_pos kH, if_neg (by decide), E_in (a := 0) (b := 2) rfl rfl, Option.bind_some, if_pos c, if_neg (by decide)]
        refine Ok_b (E_q_keeps X1 J) (fun M4 z => ?_)
        exact E_examine_L34 V c g_fuel 0 (l2 := -2) (l4 := 0) z.1 (Or.inl ⟨rfl, rfl⟩) rfl (Nat.zero_le _) (n_fu (by omega))
    · rw [if_neg kH] at t5
      refine lw9_qn (w := -1) ?_ (fun M1 X1 => ?_)
      · delta F_X11_examine F_X11_examine_b0 F_X11_examine_b19
        rw [if_neg (fun z => by have := i_lt z; omega), if_neg (fun z => by have := i_lt z; omega), t_gR k2 C.1.1.1, Option.bind_some, t_gI ke, Option.bind_some, t5, if_pos rfl]
      · delta F_X12_examine F_X12_examine_b0 F_X12_examine_b19
        rw [e_gO X1.1, Option.bind_some, E_isHouseX X1, Option.bind_some, if_neg kH, if_pos rfl]
  · refine lw9_qn (w := -1) ?_ (fun M1 X1 => ?_)
    · delta F_X11_examine F_X11_examine_b0 F_X11_examine_b19
      by_cases d : l1 < 0
      · rw [if_pos d]
      · have := i_nlt d
        rw [if_neg d, if_pos (Int32.lt_iff_toInt_lt.mpr (by omega))]
    · delta F_X12_examine F_X12_examine_b0 F_X12_examine_b19
      rw [e_gO X1.1, Option.bind_some, E_isHouseX X1, Option.bind_some]
      by_cases kH : 0 < (σ 0).toInt
      · rw [if_pos kH, if_neg (by decide), E_in (a := 0) (b := 2) rfl rfl, Option.bind_some, if_neg c, if_pos rfl]
      · rw [if_neg kH, if_pos rfl]
-- 7zao.longs
/-! the reference's own number of draws: what a YEAR leaves -/
def uL_P (M : gM) (o : Option gM) : Prop := g_k M 175 = (12, 0) → ∀ r, o = some r → r.1 = M.1 ∧ r.2.2.1 175 = M.2.2.1 175
def uL_Q {β : Type} (M : gM) (o : Option (β × gM)) : Prop := g_k M 175 = (12, 0) → ∀ r, o = some r → r.2.1 = M.1 ∧ r.2.2.2.1 175 = M.2.2.1 175
theorem uLP_none {M : gM} : uL_P M none := fun _ r h => by cases h
theorem uLQ_none {β : Type} {M : gM} : uL_Q M (none : Option (β × gM)) := fun _ r h => by cases h
theorem uLP_some {M : gM} : uL_P M (some M) := fun _ r h => by obtain rfl := Option.some.inj h; exact ⟨rfl, rfl⟩
theorem uLQ_some {β : Type} {v : β} {M : gM} : uL_Q M (some (v, M)) := fun _ r h => by obtain rfl := Option.some.inj h; exact ⟨rfl, rfl⟩
theorem uLP_ite {c : Prop} [Decidable c] {M : gM} {a b : Option gM} (h1 : uL_P M a) (h2 : uL_P M b) : uL_P M (if c then a else b) := by split <;> assumption
theorem uLQ_ite {β : Type} {c : Prop} [Decidable c] {M : gM} {a b : Option (β × gM)} (h1 : uL_Q M a) (h2 : uL_Q M b) : uL_Q M (if c then a else b) := by split <;> assumption
theorem uLP_bind {α : Type} {M : gM} {o : Option α} {f : α → Option gM} (h : ∀ a, uL_P M (f a)) : uL_P M (o.bind f) := by
  cases o with
  | none => exact uLP_none
  | some a => exact h a
theorem uLQ_bind {α β : Type} {M : gM} {o : Option α} {f : α → Option (β × gM)} (h : ∀ a, uL_Q M (f a)) : uL_Q M (o.bind f) := by
  cases o with
  | none => exact uLQ_none
  | some a => exact h a
theorem uL_k {M M' : gM} (k : g_k M 175 = (12, 0)) (h : M'.1 = M.1) : g_k M' 175 = (12, 0) := (q_k_of h).trans k
theorem uLP_bM {M : gM} {o : Option gM} {f : gM → Option gM} (h1 : uL_P M o) (h2 : ∀ M', uL_P M' (f M')) : uL_P M (o.bind f) := fun k r e => by
  cases o with
  | none => cases e
  | some M1 =>
    have a := h1 k M1 rfl
    have b := h2 M1 (uL_k k a.1) r e
    exact ⟨b.1.trans a.1, b.2.trans a.2⟩
theorem uLQ_bM {β : Type} {M : gM} {o : Option gM} {f : gM → Option (β × gM)} (h1 : uL_P M o) (h2 : ∀ M', uL_Q M' (f M')) : uL_Q M (o.bind f) := fun k r e => by
  cases o with
  | none => cases e
  | some M1 =>
    have a := h1 k M1 rfl
    have b := h2 M1 (uL_k k a.1) r e
    exact ⟨b.1.trans a.1, b.2.trans a.2⟩
theorem uLP_bQ {α : Type} {M : gM} {o : Option (α × gM)} {f : α × gM → Option gM} (h1 : uL_Q M o) (h2 : ∀ a M', uL_P M' (f (a, M'))) : uL_P M (o.bind f) := fun k r e => by
  cases o with
  | none => cases e
  | some q =>
    obtain ⟨v, M1⟩ := q
    have a := h1 k (v, M1) rfl
    have b := h2 v M1 (uL_k k a.1) r e
    exact ⟨b.1.trans a.1, b.2.trans a.2⟩
theorem uLQ_bQ {α β : Type} {M : gM} {o : Option (α × gM)} {f : α × gM → Option (β × gM)} (h1 : uL_Q M o) (h2 : ∀ a M', uL_Q M' (f (a, M'))) : uL_Q M (o.bind f) := fun k r e => by
  cases o with
  | none => cases e
  | some q =>
    obtain ⟨v, M1⟩ := q
    have a := h1 k (v, M1) rfl
    have b := h2 v M1 (uL_k k a.1) r e
    exact ⟨b.1.trans a.1, b.2.trans a.2⟩
theorem uLP_sI {M : gM} {o : Option Nat} {j v : Int32} : uL_P M (sI M o j v) := fun k r e => by
  cases o with
  | none => cases e
  | some i =>
    unfold sI at e
    rw [Option.bind_some] at e
    split at e
    · obtain rfl := Option.some.inj e
      exact ⟨rfl, rfl⟩
    · cases e
theorem uLP_pI {c : Nat} {M : gM} {o : Option Nat} {j : Nat} {v : Int32} : uL_P M (pI c M o j v) := fun k r e => by
  cases o with
  | none => cases e
  | some i =>
    unfold pI at e
    rw [Option.bind_some] at e
    split at e
    · obtain rfl := Option.some.inj e
      exact ⟨rfl, rfl⟩
    · cases e
theorem uLP_sL {M : gM} {o : Option Nat} {j : Int32} {v : Int64} : uL_P M (sL M o j v) := fun k r e => by
  cases o with
  | none => cases e
  | some i =>
    unfold sL at e
    rw [Option.bind_some] at e
    split at e
    · rename_i c
      obtain rfl := Option.some.inj e
      refine ⟨rfl, g_up_ne _ _ _ (fun z => ?_)⟩
      rw [← z, k] at c
      exact absurd c.1 (by decide)
    · cases e
theorem UL_X12_words_b94 (l0 : Option Nat) (l1 : Int32) (l2 : Int32) (l3 : Int32) (s0 : Option Nat) (s1 : Int32) (s2 : Int64) (M : gM) : uL_P M (F_X12_words_b94 l0 l1 l2 l3 s0 s1 s2 M) := by
  delta F_X12_words_b94
  with_reducible repeat' (first | exact uLP_none | exact uLQ_none | exact uLP_some | exact uLQ_some | exact uLP_sI | exact uLP_pI | exact uLP_sL | refine uLP_ite ?_ ?_ | refine uLQ_ite ?_ ?_ | refine uLP_bM ?_ (fun _ => ?_) | refine uLQ_bM ?_ (fun _ => ?_) | refine uLP_bQ ?_ (fun _ _ => ?_) | refine uLQ_bQ ?_ (fun _ _ => ?_) | refine uLP_bind (fun _ => ?_) | refine uLQ_bind (fun _ => ?_) | dsimp only)
theorem UL_X12_words_b32 {k5 : Option Nat → Int32 → Int32 → Int32 → Int32 → gM → Option gM} (hk5 : ∀ (a0 : Option Nat) (a1 : Int32) (a2 : Int32) (a3 : Int32) (a4 : Int32) (M : gM), uL_P M (k5 a0 a1 a2 a3 a4 M)) (l0 : Option Nat) (l1 : Int32) (l2 : Int32) (l4 : Int32) (s0 : Int32) (s1 : Int32) (M : gM) : uL_P M (F_X12_words_b32 k5 l0 l1 l2 l4 s0 s1 M) := by
  delta F_X12_words_b32
  with_reducible repeat' (first | exact hk5 _ _ _ _ _ _ | exact uLP_none | exact uLQ_none | exact uLP_some | exact uLQ_some | exact uLP_sI | exact uLP_pI | exact uLP_sL | refine uLP_ite ?_ ?_ | refine uLQ_ite ?_ ?_ | refine uLP_bM ?_ (fun _ => ?_) | refine uLQ_bM ?_ (fun _ => ?_) | refine uLP_bQ ?_ (fun _ _ => ?_) | refine uLQ_bQ ?_ (fun _ _ => ?_) | refine uLP_bind (fun _ => ?_) | refine uLQ_bind (fun _ => ?_) | dsimp only)
theorem UL_X12_words_b5 {k5 : Option Nat → Int32 → Int32 → Int32 → Int32 → gM → Option gM} (hk5 : ∀ (a0 : Option Nat) (a1 : Int32) (a2 : Int32) (a3 : Int32) (a4 : Int32) (M : gM), uL_P M (k5 a0 a1 a2 a3 a4 M)) (l0 : Option Nat) (l1 : Int32) (l2 : Int32) (l3 : Int32) (l4 : Int32) (M : gM) : uL_P M (F_X12_words_b5 k5 l0 l1 l2 l3 l4 M) := by
  delta F_X12_words_b5
  with_reducible repeat' (first | exact hk5 _ _ _ _ _ _ | exact UL_X12_words_b94  _ _ _ _ _ _ _ _ | exact UL_X12_words_b32 (by assumption) _ _ _ _ _ _ _ | exact uLP_none | exact uLQ_none | exact uLP_some | exact uLQ_some | exact uLP_sI | exact uLP_pI | exact uLP_sL | refine uLP_ite ?_ ?_ | refine uLQ_ite ?_ ?_ | refine uLP_bM ?_ (fun _ => ?_) | refine uLQ_bM ?_ (fun _ => ?_) | refine uLP_bQ ?_ (fun _ _ => ?_) | refine uLQ_bQ ?_ (fun _ _ => ?_) | refine uLP_bind (fun _ => ?_) | refine uLQ_bind (fun _ => ?_) | dsimp only)
theorem UL_X12_words_L5  : ∀ (n : Nat) (a0 : Option Nat) (a1 : Int32) (a2 : Int32) (a3 : Int32) (a4 : Int32) (M : gM), uL_P M (F_X12_words_L5   n a0 a1 a2 a3 a4 M) := by
  intro n
  induction n with
  | zero => intro a0 a1 a2 a3 a4 M; exact uLP_none
  | succ n ih => intro a0 a1 a2 a3 a4 M; exact UL_X12_words_b5 ih _ _ _ _ _ _
theorem UL_X12_words_b0 (l0 : Option Nat) (l1 : Int32) (l2 : Int32) (M : gM) : uL_P M (F_X12_words_b0 l0 l1 l2 M) := by
  delta F_X12_words_b0
  with_reducible repeat' (first | exact UL_X12_words_L5  _ _ _ _ _ _ _ | exact uLP_none | exact uLQ_none | exact uLP_some | exact uLQ_some | exact uLP_sI | exact uLP_pI | exact uLP_sL | refine uLP_ite ?_ ?_ | refine uLQ_ite ?_ ?_ | refine uLP_bM ?_ (fun _ => ?_) | refine uLQ_bM ?_ (fun _ => ?_) | refine uLP_bQ ?_ (fun _ _ => ?_) | refine uLQ_bQ ?_ (fun _ _ => ?_) | refine uLP_bind (fun _ => ?_) | refine uLQ_bind (fun _ => ?_) | dsimp only)
theorem UL_X12_words (l0 : Option Nat) (l1 : Int32) (l2 : Int32) (M : gM) : uL_P M (F_X12_words l0 l1 l2 M) := by
  delta F_X12_words
  with_reducible repeat' (first | exact UL_X12_words_b0  _ _ _ _ | exact uLP_none | exact uLQ_none | exact uLP_some | exact uLQ_some | exact uLP_sI | exact uLP_pI | exact uLP_sL | refine uLP_ite ?_ ?_ | refine uLQ_ite ?_ ?_ | refine uLP_bM ?_ (fun _ => ?_) | refine uLQ_bM ?_ (fun _ => ?_) | refine uLP_bQ ?_ (fun _ _ => ?_) | refine uLQ_bQ ?_ (fun _ _ => ?_) | refine uLP_bind (fun _ => ?_) | refine uLQ_bind (fun _ => ?_) | dsimp only)
theorem UL_X12_push_b0 (l0 : Option Nat) (l1 : Int64) (M : gM) : uL_P M (F_X12_push_b0 l0 l1 M) := by
  delta F_X12_push_b0
  with_reducible repeat' (first | exact uLP_none | exact uLQ_none | exact uLP_some | exact uLQ_some | exact uLP_sI | exact uLP_pI | exact uLP_sL | refine uLP_ite ?_ ?_ | refine uLQ_ite ?_ ?_ | refine uLP_bM ?_ (fun _ => ?_) | refine uLQ_bM ?_ (fun _ => ?_) | refine uLP_bQ ?_ (fun _ _ => ?_) | refine uLQ_bQ ?_ (fun _ _ => ?_) | refine uLP_bind (fun _ => ?_) | refine uLQ_bind (fun _ => ?_) | dsimp only)
theorem UL_X12_push (l0 : Option Nat) (l1 : Int64) (M : gM) : uL_P M (F_X12_push l0 l1 M) := by
  delta F_X12_push
  with_reducible repeat' (first | exact UL_X12_push_b0  _ _ _ | exact uLP_none | exact uLQ_none | exact uLP_some | exact uLQ_some | exact uLP_sI | exact uLP_pI | exact uLP_sL | refine uLP_ite ?_ ?_ | refine uLQ_ite ?_ ?_ | refine uLP_bM ?_ (fun _ => ?_) | refine uLQ_bM ?_ (fun _ => ?_) | refine uLP_bQ ?_ (fun _ _ => ?_) | refine uLQ_bQ ?_ (fun _ _ => ?_) | refine uLP_bind (fun _ => ?_) | refine uLQ_bind (fun _ => ?_) | dsimp only)
theorem UL_X12_pop_b0 (l0 : Option Nat) (M : gM) : uL_Q M (F_X12_pop_b0 l0 M) := by
  delta F_X12_pop_b0
  with_reducible repeat' (first | exact uLP_none | exact uLQ_none | exact uLP_some | exact uLQ_some | exact uLP_sI | exact uLP_pI | exact uLP_sL | refine uLP_ite ?_ ?_ | refine uLQ_ite ?_ ?_ | refine uLP_bM ?_ (fun _ => ?_) | refine uLQ_bM ?_ (fun _ => ?_) | refine uLP_bQ ?_ (fun _ _ => ?_) | refine uLQ_bQ ?_ (fun _ _ => ?_) | refine uLP_bind (fun _ => ?_) | refine uLQ_bind (fun _ => ?_) | dsimp only)
theorem UL_X12_pop (l0 : Option Nat) (M : gM) : uL_Q M (F_X12_pop l0 M) := by
  delta F_X12_pop
  with_reducible repeat' (first | exact UL_X12_pop_b0  _ _ | exact uLP_none | exact uLQ_none | exact uLP_some | exact uLQ_some | exact uLP_sI | exact uLP_pI | exact uLP_sL | refine uLP_ite ?_ ?_ | refine uLQ_ite ?_ ?_ | refine uLP_bM ?_ (fun _ => ?_) | refine uLQ_bM ?_ (fun _ => ?_) | refine uLP_bQ ?_ (fun _ _ => ?_) | refine uLQ_bQ ?_ (fun _ _ => ?_) | refine uLP_bind (fun _ => ?_) | refine uLQ_bind (fun _ => ?_) | dsimp only)
theorem UL_X12_reckons_b129 {k8 : Option Nat → Int32 → Int32 → Int32 → gM → Option (Int64 × gM)} (hk8 : ∀ (a0 : Option Nat) (a1 : Int32) (a2 : Int32) (a3 : Int32) (M : gM), uL_Q M (k8 a0 a1 a2 a3 M)) (l0 : Option Nat) (l1 : Int32) (l3 : Int32) (l4 : Int32) (M : gM) : uL_Q M (F_X12_reckons_b129 k8 l0 l1 l3 l4 M) := by
  delta F_X12_reckons_b129
  with_reducible repeat' (first | exact hk8 _ _ _ _ _ | exact uLP_none | exact uLQ_none | exact uLP_some | exact uLQ_some | exact uLP_sI | exact uLP_pI | exact uLP_sL | refine uLP_ite ?_ ?_ | refine uLQ_ite ?_ ?_ | refine uLP_bM ?_ (fun _ => ?_) | refine uLQ_bM ?_ (fun _ => ?_) | refine uLP_bQ ?_ (fun _ _ => ?_) | refine uLQ_bQ ?_ (fun _ _ => ?_) | refine uLP_bind (fun _ => ?_) | refine uLQ_bind (fun _ => ?_) | dsimp only)
theorem UL_X12_reckons_b8 {k8 : Option Nat → Int32 → Int32 → Int32 → gM → Option (Int64 × gM)} (hk8 : ∀ (a0 : Option Nat) (a1 : Int32) (a2 : Int32) (a3 : Int32) (M : gM), uL_Q M (k8 a0 a1 a2 a3 M)) (l0 : Option Nat) (l1 : Int32) (l3 : Int32) (l4 : Int32) (M : gM) : uL_Q M (F_X12_reckons_b8 k8 l0 l1 l3 l4 M) := by
  delta F_X12_reckons_b8
  with_reducible repeat' (first | exact hk8 _ _ _ _ _ | exact UL_X12_pop  _ _ | exact UL_X12_push  _ _ _ | exact UL_X12_reckons_b129 (by assumption) _ _ _ _ _ | exact uLP_none | exact uLQ_none | exact uLP_some | exact uLQ_some | exact uLP_sI | exact uLP_pI | exact uLP_sL | refine uLP_ite ?_ ?_ | refine uLQ_ite ?_ ?_ | refine uLP_bM ?_ (fun _ => ?_) | refine uLQ_bM ?_ (fun _ => ?_) | refine uLP_bQ ?_ (fun _ _ => ?_) | refine uLQ_bQ ?_ (fun _ _ => ?_) | refine uLP_bind (fun _ => ?_) | refine uLQ_bind (fun _ => ?_) | dsimp only)
theorem UL_X12_reckons_L8  : ∀ (n : Nat) (a0 : Option Nat) (a1 : Int32) (a2 : Int32) (a3 : Int32) (M : gM), uL_Q M (F_X12_reckons_L8   n a0 a1 a2 a3 M) := by
  intro n
  induction n with
  | zero => intro a0 a1 a2 a3 M; exact uLQ_none
  | succ n ih => intro a0 a1 a2 a3 M; exact UL_X12_reckons_b8 ih _ _ _ _ _
theorem UL_X12_reckons_b0 (l0 : Option Nat) (l1 : Int32) (l2 : Int32) (l3 : Int32) (M : gM) : uL_Q M (F_X12_reckons_b0 l0 l1 l2 l3 M) := by
  delta F_X12_reckons_b0
  with_reducible repeat' (first | exact UL_X12_reckons_L8  _ _ _ _ _ _ | exact uLP_none | exact uLQ_none | exact uLP_some | exact uLQ_some | exact uLP_sI | exact uLP_pI | exact uLP_sL | refine uLP_ite ?_ ?_ | refine uLQ_ite ?_ ?_ | refine uLP_bM ?_ (fun _ => ?_) | refine uLQ_bM ?_ (fun _ => ?_) | refine uLP_bQ ?_ (fun _ _ => ?_) | refine uLQ_bQ ?_ (fun _ _ => ?_) | refine uLP_bind (fun _ => ?_) | refine uLQ_bind (fun _ => ?_) | dsimp only)
theorem UL_X12_reckons (l0 : Option Nat) (l1 : Int32) (l2 : Int32) (l3 : Int32) (M : gM) : uL_Q M (F_X12_reckons l0 l1 l2 l3 M) := by
  delta F_X12_reckons
  with_reducible repeat' (first | exact UL_X12_reckons_b0  _ _ _ _ _ | exact uLP_none | exact uLQ_none | exact uLP_some | exact uLQ_some | exact uLP_sI | exact uLP_pI | exact uLP_sL | refine uLP_ite ?_ ?_ | refine uLQ_ite ?_ ?_ | refine uLP_bM ?_ (fun _ => ?_) | refine uLQ_bM ?_ (fun _ => ?_) | refine uLP_bQ ?_ (fun _ _ => ?_) | refine uLQ_bQ ?_ (fun _ _ => ?_) | refine uLP_bind (fun _ => ?_) | refine uLQ_bind (fun _ => ?_) | dsimp only)
theorem UL_X12_summedBy_b58 (l0 : Option Nat) (l1 : Int32) (l3 : Int32) (M : gM) : uL_Q M (F_X12_summedBy_b58 l0 l1 l3 M) := by
  delta F_X12_summedBy_b58
  with_reducible repeat' (first | exact UL_X12_reckons  _ _ _ _ _ | exact uLP_none | exact uLQ_none | exact uLP_some | exact uLQ_some | exact uLP_sI | exact uLP_pI | exact uLP_sL | refine uLP_ite ?_ ?_ | refine uLQ_ite ?_ ?_ | refine uLP_bM ?_ (fun _ => ?_) | refine uLQ_bM ?_ (fun _ => ?_) | refine uLP_bQ ?_ (fun _ _ => ?_) | refine uLQ_bQ ?_ (fun _ _ => ?_) | refine uLP_bind (fun _ => ?_) | refine uLQ_bind (fun _ => ?_) | dsimp only)
theorem UL_X12_summedBy_b2 {k2 : Option Nat → Int32 → Int32 → gM → Option (Int64 × gM)} (hk2 : ∀ (a0 : Option Nat) (a1 : Int32) (a2 : Int32) (M : gM), uL_Q M (k2 a0 a1 a2 M)) (l0 : Option Nat) (l1 : Int32) (l2 : Int32) (M : gM) : uL_Q M (F_X12_summedBy_b2 k2 l0 l1 l2 M) := by
  delta F_X12_summedBy_b2
  with_reducible repeat' (first | exact hk2 _ _ _ _ | exact UL_X12_summedBy_b58  _ _ _ _ | exact UL_X12_reckons  _ _ _ _ _ | exact uLP_none | exact uLQ_none | exact uLP_some | exact uLQ_some | exact uLP_sI | exact uLP_pI | exact uLP_sL | refine uLP_ite ?_ ?_ | refine uLQ_ite ?_ ?_ | refine uLP_bM ?_ (fun _ => ?_) | refine uLQ_bM ?_ (fun _ => ?_) | refine uLP_bQ ?_ (fun _ _ => ?_) | refine uLQ_bQ ?_ (fun _ _ => ?_) | refine uLP_bind (fun _ => ?_) | refine uLQ_bind (fun _ => ?_) | dsimp only)
theorem UL_X12_summedBy_L2  : ∀ (n : Nat) (a0 : Option Nat) (a1 : Int32) (a2 : Int32) (M : gM), uL_Q M (F_X12_summedBy_L2   n a0 a1 a2 M) := by
  intro n
  induction n with
  | zero => intro a0 a1 a2 M; exact uLQ_none
  | succ n ih => intro a0 a1 a2 M; exact UL_X12_summedBy_b2 ih _ _ _ _
theorem UL_X12_summedBy_b0 (l0 : Option Nat) (l1 : Int32) (M : gM) : uL_Q M (F_X12_summedBy_b0 l0 l1 M) := by
  delta F_X12_summedBy_b0
  with_reducible repeat' (first | exact UL_X12_summedBy_L2  _ _ _ _ _ | exact uLP_none | exact uLQ_none | exact uLP_some | exact uLQ_some | exact uLP_sI | exact uLP_pI | exact uLP_sL | refine uLP_ite ?_ ?_ | refine uLQ_ite ?_ ?_ | refine uLP_bM ?_ (fun _ => ?_) | refine uLQ_bM ?_ (fun _ => ?_) | refine uLP_bQ ?_ (fun _ _ => ?_) | refine uLQ_bQ ?_ (fun _ _ => ?_) | refine uLP_bind (fun _ => ?_) | refine uLQ_bind (fun _ => ?_) | dsimp only)
theorem UL_X12_summedBy (l0 : Option Nat) (l1 : Int32) (M : gM) : uL_Q M (F_X12_summedBy l0 l1 M) := by
  delta F_X12_summedBy
  with_reducible repeat' (first | exact UL_X12_summedBy_b0  _ _ _ | exact uLP_none | exact uLQ_none | exact uLP_some | exact uLQ_some | exact uLP_sI | exact uLP_pI | exact uLP_sL | refine uLP_ite ?_ ?_ | refine uLQ_ite ?_ ?_ | refine uLP_bM ?_ (fun _ => ?_) | refine uLQ_bM ?_ (fun _ => ?_) | refine uLP_bQ ?_ (fun _ _ => ?_) | refine uLQ_bQ ?_ (fun _ _ => ?_) | refine uLP_bind (fun _ => ?_) | refine uLQ_bind (fun _ => ?_) | dsimp only)
theorem UL_X12_lossOf_b0 (l0 : Option Nat) (l1 : Int32) (l2 : Int32) (M : gM) : uL_Q M (F_X12_lossOf_b0 l0 l1 l2 M) := by
  delta F_X12_lossOf_b0
  with_reducible repeat' (first | exact UL_X12_words  _ _ _ _ | exact UL_X12_summedBy  _ _ _ | exact uLP_none | exact uLQ_none | exact uLP_some | exact uLQ_some | exact uLP_sI | exact uLP_pI | exact uLP_sL | refine uLP_ite ?_ ?_ | refine uLQ_ite ?_ ?_ | refine uLP_bM ?_ (fun _ => ?_) | refine uLQ_bM ?_ (fun _ => ?_) | refine uLP_bQ ?_ (fun _ _ => ?_) | refine uLQ_bQ ?_ (fun _ _ => ?_) | refine uLP_bind (fun _ => ?_) | refine uLQ_bind (fun _ => ?_) | dsimp only)
theorem UL_X12_lossOf (l0 : Option Nat) (l1 : Int32) (l2 : Int32) (M : gM) : uL_Q M (F_X12_lossOf l0 l1 l2 M) := by
  delta F_X12_lossOf
  with_reducible repeat' (first | exact UL_X12_lossOf_b0  _ _ _ _ | exact uLP_none | exact uLQ_none | exact uLP_some | exact uLQ_some | exact uLP_sI | exact uLP_pI | exact uLP_sL | refine uLP_ite ?_ ?_ | refine uLQ_ite ?_ ?_ | refine uLP_bM ?_ (fun _ => ?_) | refine uLQ_bM ?_ (fun _ => ?_) | refine uLP_bQ ?_ (fun _ _ => ?_) | refine uLQ_bQ ?_ (fun _ _ => ?_) | refine uLP_bind (fun _ => ?_) | refine uLQ_bind (fun _ => ?_) | dsimp only)
theorem UL_X12_knowsNow_b54 (s0 : Option Nat) (s1 : Int32) (s2 : Int32) (M : gM) : uL_P M (F_X12_knowsNow_b54 s0 s1 s2 M) := by
  delta F_X12_knowsNow_b54
  with_reducible repeat' (first | exact uLP_none | exact uLQ_none | exact uLP_some | exact uLQ_some | exact uLP_sI | exact uLP_pI | exact uLP_sL | refine uLP_ite ?_ ?_ | refine uLQ_ite ?_ ?_ | refine uLP_bM ?_ (fun _ => ?_) | refine uLQ_bM ?_ (fun _ => ?_) | refine uLP_bQ ?_ (fun _ _ => ?_) | refine uLQ_bQ ?_ (fun _ _ => ?_) | refine uLP_bind (fun _ => ?_) | refine uLQ_bind (fun _ => ?_) | dsimp only)
theorem UL_X12_knowsNow_b25 (l0 : Option Nat) (l1 : Int32) (l2 : Int32) (l4 : Int32) (s0 : Option Nat) (s1 : Int32) (s2 : Int32) (M : gM) : uL_P M (F_X12_knowsNow_b25 l0 l1 l2 l4 s0 s1 s2 M) := by
  delta F_X12_knowsNow_b25
  with_reducible repeat' (first | exact UL_X12_knowsNow_b54  _ _ _ _ | exact uLP_none | exact uLQ_none | exact uLP_some | exact uLQ_some | exact uLP_sI | exact uLP_pI | exact uLP_sL | refine uLP_ite ?_ ?_ | refine uLQ_ite ?_ ?_ | refine uLP_bM ?_ (fun _ => ?_) | refine uLQ_bM ?_ (fun _ => ?_) | refine uLP_bQ ?_ (fun _ _ => ?_) | refine uLQ_bQ ?_ (fun _ _ => ?_) | refine uLP_bind (fun _ => ?_) | refine uLQ_bind (fun _ => ?_) | dsimp only)
theorem UL_X12_knowsNow_b0 (l0 : Option Nat) (l1 : Int32) (l2 : Int32) (l3 : Int32) (l4 : Int32) (M : gM) : uL_P M (F_X12_knowsNow_b0 l0 l1 l2 l3 l4 M) := by
  delta F_X12_knowsNow_b0
  with_reducible repeat' (first | exact UL_X12_knowsNow_b25  _ _ _ _ _ _ _ _ | exact uLP_none | exact uLQ_none | exact uLP_some | exact uLQ_some | exact uLP_sI | exact uLP_pI | exact uLP_sL | refine uLP_ite ?_ ?_ | refine uLQ_ite ?_ ?_ | refine uLP_bM ?_ (fun _ => ?_) | refine uLQ_bM ?_ (fun _ => ?_) | refine uLP_bQ ?_ (fun _ _ => ?_) | refine uLQ_bQ ?_ (fun _ _ => ?_) | refine uLP_bind (fun _ => ?_) | refine uLQ_bind (fun _ => ?_) | dsimp only)
theorem UL_X12_knowsNow (l0 : Option Nat) (l1 : Int32) (l2 : Int32) (l3 : Int32) (l4 : Int32) (M : gM) : uL_P M (F_X12_knowsNow l0 l1 l2 l3 l4 M) := by
  delta F_X12_knowsNow
  with_reducible repeat' (first | exact UL_X12_knowsNow_b0  _ _ _ _ _ _ | exact uLP_none | exact uLQ_none | exact uLP_some | exact uLQ_some | exact uLP_sI | exact uLP_pI | exact uLP_sL | refine uLP_ite ?_ ?_ | refine uLQ_ite ?_ ?_ | refine uLP_bM ?_ (fun _ => ?_) | refine uLQ_bM ?_ (fun _ => ?_) | refine uLP_bQ ?_ (fun _ _ => ?_) | refine uLQ_bQ ?_ (fun _ _ => ?_) | refine uLP_bind (fun _ => ?_) | refine uLQ_bind (fun _ => ?_) | dsimp only)
theorem UL_X12_passes_b228 {k176 : Option Nat → Int32 → Int32 → gM → Option (Int32 × gM)} (hk176 : ∀ (a0 : Option Nat) (a1 : Int32) (a2 : Int32) (M : gM), uL_Q M (k176 a0 a1 a2 M)) (l0 : Option Nat) (l1 : Int32) (l2 : Int32) (M : gM) : uL_Q M (F_X12_passes_b228 k176 l0 l1 l2 M) := by
  delta F_X12_passes_b228
  with_reducible repeat' (first | exact hk176 _ _ _ _ | exact uLP_none | exact uLQ_none | exact uLP_some | exact uLQ_some | exact uLP_sI | exact uLP_pI | exact uLP_sL | refine uLP_ite ?_ ?_ | refine uLQ_ite ?_ ?_ | refine uLP_bM ?_ (fun _ => ?_) | refine uLQ_bM ?_ (fun _ => ?_) | refine uLP_bQ ?_ (fun _ _ => ?_) | refine uLQ_bQ ?_ (fun _ _ => ?_) | refine uLP_bind (fun _ => ?_) | refine uLQ_bind (fun _ => ?_) | dsimp only)
theorem UL_X12_passes_b176 {k176 : Option Nat → Int32 → Int32 → gM → Option (Int32 × gM)} (hk176 : ∀ (a0 : Option Nat) (a1 : Int32) (a2 : Int32) (M : gM), uL_Q M (k176 a0 a1 a2 M)) (l0 : Option Nat) (l1 : Int32) (l2 : Int32) (M : gM) : uL_Q M (F_X12_passes_b176 k176 l0 l1 l2 M) := by
  delta F_X12_passes_b176
  with_reducible repeat' (first | exact hk176 _ _ _ _ | exact UL_X12_passes_b228 (by assumption) _ _ _ _ | exact uLP_none | exact uLQ_none | exact uLP_some | exact uLQ_some | exact uLP_sI | exact uLP_pI | exact uLP_sL | refine uLP_ite ?_ ?_ | refine uLQ_ite ?_ ?_ | refine uLP_bM ?_ (fun _ => ?_) | refine uLQ_bM ?_ (fun _ => ?_) | refine uLP_bQ ?_ (fun _ _ => ?_) | refine uLQ_bQ ?_ (fun _ _ => ?_) | refine uLP_bind (fun _ => ?_) | refine uLQ_bind (fun _ => ?_) | dsimp only)
theorem UL_X12_passes_L176  : ∀ (n : Nat) (a0 : Option Nat) (a1 : Int32) (a2 : Int32) (M : gM), uL_Q M (F_X12_passes_L176   n a0 a1 a2 M) := by
  intro n
  induction n with
  | zero => intro a0 a1 a2 M; exact uLQ_none
  | succ n ih => intro a0 a1 a2 M; exact UL_X12_passes_b176 ih _ _ _ _
theorem UL_X12_passes_b168 {k70 : Option Nat → Int32 → Int32 → gM → Option (Int32 × gM)} (hk70 : ∀ (a0 : Option Nat) (a1 : Int32) (a2 : Int32) (M : gM), uL_Q M (k70 a0 a1 a2 M)) (l0 : Option Nat) (l1 : Int32) (l2 : Int32) (M : gM) : uL_Q M (F_X12_passes_b168 k70 l0 l1 l2 M) := by
  delta F_X12_passes_b168
  with_reducible repeat' (first | exact hk70 _ _ _ _ | exact uLP_none | exact uLQ_none | exact uLP_some | exact uLQ_some | exact uLP_sI | exact uLP_pI | exact uLP_sL | refine uLP_ite ?_ ?_ | refine uLQ_ite ?_ ?_ | refine uLP_bM ?_ (fun _ => ?_) | refine uLQ_bM ?_ (fun _ => ?_) | refine uLP_bQ ?_ (fun _ _ => ?_) | refine uLQ_bQ ?_ (fun _ _ => ?_) | refine uLP_bind (fun _ => ?_) | refine uLQ_bind (fun _ => ?_) | dsimp only)
theorem UL_X12_passes_b131 {k70 : Option Nat → Int32 → Int32 → gM → Option (Int32 × gM)} {k82 : Option Nat → Int32 → Int32 → Int32 → gM → Option (Int32 × gM)} (hk70 : ∀ (a0 : Option Nat) (a1 : Int32) (a2 : Int32) (M : gM), uL_Q M (k70 a0 a1 a2 M)) (hk82 : ∀ (a0 : Option Nat) (a1 : Int32) (a2 : Int32) (a3 : Int32) (M : gM), uL_Q M (k82 a0 a1 a2 a3 M)) (l0 : Option Nat) (l1 : Int32) (l2 : Int32) (l3 : Int32) (M : gM) : uL_Q M (F_X12_passes_b131 k70 k82 l0 l1 l2 l3 M) := by
  delta F_X12_passes_b131
  with_reducible repeat' (first | exact hk70 _ _ _ _ | exact hk82 _ _ _ _ _ | exact uLP_none | exact uLQ_none | exact uLP_some | exact uLQ_some | exact uLP_sI | exact uLP_pI | exact uLP_sL | refine uLP_ite ?_ ?_ | refine uLQ_ite ?_ ?_ | refine uLP_bM ?_ (fun _ => ?_) | refine uLQ_bM ?_ (fun _ => ?_) | refine uLP_bQ ?_ (fun _ _ => ?_) | refine uLQ_bQ ?_ (fun _ _ => ?_) | refine uLP_bind (fun _ => ?_) | refine uLQ_bind (fun _ => ?_) | dsimp only)
theorem UL_X12_passes_b82 {k70 : Option Nat → Int32 → Int32 → gM → Option (Int32 × gM)} {k82 : Option Nat → Int32 → Int32 → Int32 → gM → Option (Int32 × gM)} (hk70 : ∀ (a0 : Option Nat) (a1 : Int32) (a2 : Int32) (M : gM), uL_Q M (k70 a0 a1 a2 M)) (hk82 : ∀ (a0 : Option Nat) (a1 : Int32) (a2 : Int32) (a3 : Int32) (M : gM), uL_Q M (k82 a0 a1 a2 a3 M)) (l0 : Option Nat) (l1 : Int32) (l2 : Int32) (l3 : Int32) (M : gM) : uL_Q M (F_X12_passes_b82 k70 k82 l0 l1 l2 l3 M) := by
  delta F_X12_passes_b82
  with_reducible repeat' (first | exact hk70 _ _ _ _ | exact hk82 _ _ _ _ _ | exact UL_X12_passes_b168 (by assumption) _ _ _ _ | exact UL_X12_passes_b131 (by assumption) (by assumption) _ _ _ _ _ | exact UL_X12_knowsNow  _ _ _ _ _ _ | exact uLP_none | exact uLQ_none | exact uLP_some | exact uLQ_some | exact uLP_sI | exact uLP_pI | exact uLP_sL | refine uLP_ite ?_ ?_ | refine uLQ_ite ?_ ?_ | refine uLP_bM ?_ (fun _ => ?_) | refine uLQ_bM ?_ (fun _ => ?_) | refine uLP_bQ ?_ (fun _ _ => ?_) | refine uLQ_bQ ?_ (fun _ _ => ?_) | refine uLP_bind (fun _ => ?_) | refine uLQ_bind (fun _ => ?_) | dsimp only)
theorem UL_X12_passes_L82 {k70 : Option Nat → Int32 → Int32 → gM → Option (Int32 × gM)} (hk70 : ∀ (a0 : Option Nat) (a1 : Int32) (a2 : Int32) (M : gM), uL_Q M (k70 a0 a1 a2 M))  : ∀ (n : Nat) (a0 : Option Nat) (a1 : Int32) (a2 : Int32) (a3 : Int32) (M : gM), uL_Q M (F_X12_passes_L82 k70  n a0 a1 a2 a3 M) := by
  intro n
  induction n with
  | zero => intro a0 a1 a2 a3 M; exact uLQ_none
  | succ n ih => intro a0 a1 a2 a3 M; exact UL_X12_passes_b82 hk70 ih _ _ _ _ _
theorem UL_X12_passes_b70 {k70 : Option Nat → Int32 → Int32 → gM → Option (Int32 × gM)} (hk70 : ∀ (a0 : Option Nat) (a1 : Int32) (a2 : Int32) (M : gM), uL_Q M (k70 a0 a1 a2 M)) (l0 : Option Nat) (l1 : Int32) (l2 : Int32) (M : gM) : uL_Q M (F_X12_passes_b70 k70 l0 l1 l2 M) := by
  delta F_X12_passes_b70
  with_reducible repeat' (first | exact hk70 _ _ _ _ | exact UL_X12_passes_L176  _ _ _ _ _ | exact UL_X12_passes_L82 (by assumption) _ _ _ _ _ _ | exact uLP_none | exact uLQ_none | exact uLP_some | exact uLQ_some | exact uLP_sI | exact uLP_pI | exact uLP_sL | refine uLP_ite ?_ ?_ | refine uLQ_ite ?_ ?_ | refine uLP_bM ?_ (fun _ => ?_) | refine uLQ_bM ?_ (fun _ => ?_) | refine uLP_bQ ?_ (fun _ _ => ?_) | refine uLQ_bQ ?_ (fun _ _ => ?_) | refine uLP_bind (fun _ => ?_) | refine uLQ_bind (fun _ => ?_) | dsimp only)
theorem UL_X12_passes_L70  : ∀ (n : Nat) (a0 : Option Nat) (a1 : Int32) (a2 : Int32) (M : gM), uL_Q M (F_X12_passes_L70   n a0 a1 a2 M) := by
  intro n
  induction n with
  | zero => intro a0 a1 a2 M; exact uLQ_none
  | succ n ih => intro a0 a1 a2 M; exact UL_X12_passes_b70 ih _ _ _ _
theorem UL_X12_passes_b55 {k4 : Option Nat → Int32 → Int32 → gM → Option (Int32 × gM)} {k16 : Option Nat → Int32 → Int32 → Int32 → gM → Option (Int32 × gM)} (hk4 : ∀ (a0 : Option Nat) (a1 : Int32) (a2 : Int32) (M : gM), uL_Q M (k4 a0 a1 a2 M)) (hk16 : ∀ (a0 : Option Nat) (a1 : Int32) (a2 : Int32) (a3 : Int32) (M : gM), uL_Q M (k16 a0 a1 a2 a3 M)) (l0 : Option Nat) (l1 : Int32) (l2 : Int32) (l3 : Int32) (s0 : Option Nat) (s1 : Int32) (s2 : Int32) (M : gM) : uL_Q M (F_X12_passes_b55 k4 k16 l0 l1 l2 l3 s0 s1 s2 M) := by
  delta F_X12_passes_b55
  with_reducible repeat' (first | exact hk4 _ _ _ _ | exact hk16 _ _ _ _ _ | exact uLP_none | exact uLQ_none | exact uLP_some | exact uLQ_some | exact uLP_sI | exact uLP_pI | exact uLP_sL | refine uLP_ite ?_ ?_ | refine uLQ_ite ?_ ?_ | refine uLP_bM ?_ (fun _ => ?_) | refine uLQ_bM ?_ (fun _ => ?_) | refine uLP_bQ ?_ (fun _ _ => ?_) | refine uLQ_bQ ?_ (fun _ _ => ?_) | refine uLP_bind (fun _ => ?_) | refine uLQ_bind (fun _ => ?_) | dsimp only)
theorem UL_X12_passes_b16 {k4 : Option Nat → Int32 → Int32 → gM → Option (Int32 × gM)} {k16 : Option Nat → Int32 → Int32 → Int32 → gM → Option (Int32 × gM)} (hk4 : ∀ (a0 : Option Nat) (a1 : Int32) (a2 : Int32) (M : gM), uL_Q M (k4 a0 a1 a2 M)) (hk16 : ∀ (a0 : Option Nat) (a1 : Int32) (a2 : Int32) (a3 : Int32) (M : gM), uL_Q M (k16 a0 a1 a2 a3 M)) (l0 : Option Nat) (l1 : Int32) (l2 : Int32) (l3 : Int32) (M : gM) : uL_Q M (F_X12_passes_b16 k4 k16 l0 l1 l2 l3 M) := by
  delta F_X12_passes_b16
  with_reducible repeat' (first | exact hk4 _ _ _ _ | exact hk16 _ _ _ _ _ | exact UL_X12_passes_b55 (by assumption) (by assumption) _ _ _ _ _ _ _ _ | exact UL_X12_lossOf  _ _ _ _ | exact uLP_none | exact uLQ_none | exact uLP_some | exact uLQ_some | exact uLP_sI | exact uLP_pI | exact uLP_sL | refine uLP_ite ?_ ?_ | refine uLQ_ite ?_ ?_ | refine uLP_bM ?_ (fun _ => ?_) | refine uLQ_bM ?_ (fun _ => ?_) | refine uLP_bQ ?_ (fun _ _ => ?_) | refine uLQ_bQ ?_ (fun _ _ => ?_) | refine uLP_bind (fun _ => ?_) | refine uLQ_bind (fun _ => ?_) | dsimp only)
theorem UL_X12_passes_L16 {k4 : Option Nat → Int32 → Int32 → gM → Option (Int32 × gM)} (hk4 : ∀ (a0 : Option Nat) (a1 : Int32) (a2 : Int32) (M : gM), uL_Q M (k4 a0 a1 a2 M))  : ∀ (n : Nat) (a0 : Option Nat) (a1 : Int32) (a2 : Int32) (a3 : Int32) (M : gM), uL_Q M (F_X12_passes_L16 k4  n a0 a1 a2 a3 M) := by
  intro n
  induction n with
  | zero => intro a0 a1 a2 a3 M; exact uLQ_none
  | succ n ih => intro a0 a1 a2 a3 M; exact UL_X12_passes_b16 hk4 ih _ _ _ _ _
theorem UL_X12_passes_b4 {k4 : Option Nat → Int32 → Int32 → gM → Option (Int32 × gM)} (hk4 : ∀ (a0 : Option Nat) (a1 : Int32) (a2 : Int32) (M : gM), uL_Q M (k4 a0 a1 a2 M)) (l0 : Option Nat) (l1 : Int32) (l2 : Int32) (M : gM) : uL_Q M (F_X12_passes_b4 k4 l0 l1 l2 M) := by
  delta F_X12_passes_b4
  with_reducible repeat' (first | exact hk4 _ _ _ _ | exact UL_X12_passes_L70  _ _ _ _ _ | exact UL_X12_passes_L16 (by assumption) _ _ _ _ _ _ | exact uLP_none | exact uLQ_none | exact uLP_some | exact uLQ_some | exact uLP_sI | exact uLP_pI | exact uLP_sL | refine uLP_ite ?_ ?_ | refine uLQ_ite ?_ ?_ | refine uLP_bM ?_ (fun _ => ?_) | refine uLQ_bM ?_ (fun _ => ?_) | refine uLP_bQ ?_ (fun _ _ => ?_) | refine uLQ_bQ ?_ (fun _ _ => ?_) | refine uLP_bind (fun _ => ?_) | refine uLQ_bind (fun _ => ?_) | dsimp only)
theorem UL_X12_passes_L4  : ∀ (n : Nat) (a0 : Option Nat) (a1 : Int32) (a2 : Int32) (M : gM), uL_Q M (F_X12_passes_L4   n a0 a1 a2 M) := by
  intro n
  induction n with
  | zero => intro a0 a1 a2 M; exact uLQ_none
  | succ n ih => intro a0 a1 a2 M; exact UL_X12_passes_b4 ih _ _ _ _
theorem UL_X12_passes_b0 (l0 : Option Nat) (M : gM) : uL_Q M (F_X12_passes_b0 l0 M) := by
  delta F_X12_passes_b0
  with_reducible repeat' (first | exact UL_X12_passes_L4  _ _ _ _ _ | exact uLP_none | exact uLQ_none | exact uLP_some | exact uLQ_some | exact uLP_sI | exact uLP_pI | exact uLP_sL | refine uLP_ite ?_ ?_ | refine uLQ_ite ?_ ?_ | refine uLP_bM ?_ (fun _ => ?_) | refine uLQ_bM ?_ (fun _ => ?_) | refine uLP_bQ ?_ (fun _ _ => ?_) | refine uLQ_bQ ?_ (fun _ _ => ?_) | refine uLP_bind (fun _ => ?_) | refine uLQ_bind (fun _ => ?_) | dsimp only)
theorem UL_X12_passes (l0 : Option Nat) (M : gM) : uL_Q M (F_X12_passes l0 M) := by
  delta F_X12_passes
  with_reducible repeat' (first | exact UL_X12_passes_b0  _ _ | exact uLP_none | exact uLQ_none | exact uLP_some | exact uLQ_some | exact uLP_sI | exact uLP_pI | exact uLP_sL | refine uLP_ite ?_ ?_ | refine uLQ_ite ?_ ?_ | refine uLP_bM ?_ (fun _ => ?_) | refine uLQ_bM ?_ (fun _ => ?_) | refine uLP_bQ ?_ (fun _ _ => ?_) | refine uLQ_bQ ?_ (fun _ _ => ?_) | refine uLP_bind (fun _ => ?_) | refine uLQ_bind (fun _ => ?_) | dsimp only)
theorem UL_X12_keeps_b2 {k2 : Option Nat → Int32 → gM → Option gM} (hk2 : ∀ (a0 : Option Nat) (a1 : Int32) (M : gM), uL_P M (k2 a0 a1 M)) (l0 : Option Nat) (l1 : Int32) (M : gM) : uL_P M (F_X12_keeps_b2 k2 l0 l1 M) := by
  delta F_X12_keeps_b2
  with_reducible repeat' (first | exact hk2 _ _ _ | exact uLP_none | exact uLQ_none | exact uLP_some | exact uLQ_some | exact uLP_sI | exact uLP_pI | exact uLP_sL | refine uLP_ite ?_ ?_ | refine uLQ_ite ?_ ?_ | refine uLP_bM ?_ (fun _ => ?_) | refine uLQ_bM ?_ (fun _ => ?_) | refine uLP_bQ ?_ (fun _ _ => ?_) | refine uLQ_bQ ?_ (fun _ _ => ?_) | refine uLP_bind (fun _ => ?_) | refine uLQ_bind (fun _ => ?_) | dsimp only)
theorem UL_X12_keeps_L2  : ∀ (n : Nat) (a0 : Option Nat) (a1 : Int32) (M : gM), uL_P M (F_X12_keeps_L2   n a0 a1 M) := by
  intro n
  induction n with
  | zero => intro a0 a1 M; exact uLP_none
  | succ n ih => intro a0 a1 M; exact UL_X12_keeps_b2 ih _ _ _
theorem UL_X12_keeps_b0 (l0 : Option Nat) (M : gM) : uL_P M (F_X12_keeps_b0 l0 M) := by
  delta F_X12_keeps_b0
  with_reducible repeat' (first | exact UL_X12_keeps_L2  _ _ _ _ | exact uLP_none | exact uLQ_none | exact uLP_some | exact uLQ_some | exact uLP_sI | exact uLP_pI | exact uLP_sL | refine uLP_ite ?_ ?_ | refine uLQ_ite ?_ ?_ | refine uLP_bM ?_ (fun _ => ?_) | refine uLQ_bM ?_ (fun _ => ?_) | refine uLP_bQ ?_ (fun _ _ => ?_) | refine uLQ_bQ ?_ (fun _ _ => ?_) | refine uLP_bind (fun _ => ?_) | refine uLQ_bind (fun _ => ?_) | dsimp only)
theorem UL_X12_keeps (l0 : Option Nat) (M : gM) : uL_P M (F_X12_keeps l0 M) := by
  delta F_X12_keeps
  with_reducible repeat' (first | exact UL_X12_keeps_b0  _ _ | exact uLP_none | exact uLQ_none | exact uLP_some | exact uLQ_some | exact uLP_sI | exact uLP_pI | exact uLP_sL | refine uLP_ite ?_ ?_ | refine uLQ_ite ?_ ?_ | refine uLP_bM ?_ (fun _ => ?_) | refine uLQ_bM ?_ (fun _ => ?_) | refine uLP_bQ ?_ (fun _ _ => ?_) | refine uLQ_bQ ?_ (fun _ _ => ?_) | refine uLP_bind (fun _ => ?_) | refine uLQ_bind (fun _ => ?_) | dsimp only)
theorem UL_X12_laysBack_b2 {k2 : Option Nat → Int32 → gM → Option gM} (hk2 : ∀ (a0 : Option Nat) (a1 : Int32) (M : gM), uL_P M (k2 a0 a1 M)) (l0 : Option Nat) (l1 : Int32) (M : gM) : uL_P M (F_X12_laysBack_b2 k2 l0 l1 M) := by
  delta F_X12_laysBack_b2
  with_reducible repeat' (first | exact hk2 _ _ _ | exact uLP_none | exact uLQ_none | exact uLP_some | exact uLQ_some | exact uLP_sI | exact uLP_pI | exact uLP_sL | refine uLP_ite ?_ ?_ | refine uLQ_ite ?_ ?_ | refine uLP_bM ?_ (fun _ => ?_) | refine uLQ_bM ?_ (fun _ => ?_) | refine uLP_bQ ?_ (fun _ _ => ?_) | refine uLQ_bQ ?_ (fun _ _ => ?_) | refine uLP_bind (fun _ => ?_) | refine uLQ_bind (fun _ => ?_) | dsimp only)
theorem UL_X12_laysBack_L2  : ∀ (n : Nat) (a0 : Option Nat) (a1 : Int32) (M : gM), uL_P M (F_X12_laysBack_L2   n a0 a1 M) := by
  intro n
  induction n with
  | zero => intro a0 a1 M; exact uLP_none
  | succ n ih => intro a0 a1 M; exact UL_X12_laysBack_b2 ih _ _ _
theorem UL_X12_laysBack_b0 (l0 : Option Nat) (M : gM) : uL_P M (F_X12_laysBack_b0 l0 M) := by
  delta F_X12_laysBack_b0
  with_reducible repeat' (first | exact UL_X12_laysBack_L2  _ _ _ _ | exact uLP_none | exact uLQ_none | exact uLP_some | exact uLQ_some | exact uLP_sI | exact uLP_pI | exact uLP_sL | refine uLP_ite ?_ ?_ | refine uLQ_ite ?_ ?_ | refine uLP_bM ?_ (fun _ => ?_) | refine uLQ_bM ?_ (fun _ => ?_) | refine uLP_bQ ?_ (fun _ _ => ?_) | refine uLQ_bQ ?_ (fun _ _ => ?_) | refine uLP_bind (fun _ => ?_) | refine uLQ_bind (fun _ => ?_) | dsimp only)
theorem UL_X12_laysBack (l0 : Option Nat) (M : gM) : uL_P M (F_X12_laysBack l0 M) := by
  delta F_X12_laysBack
  with_reducible repeat' (first | exact UL_X12_laysBack_b0  _ _ | exact uLP_none | exact uLQ_none | exact uLP_some | exact uLQ_some | exact uLP_sI | exact uLP_pI | exact uLP_sL | refine uLP_ite ?_ ?_ | refine uLQ_ite ?_ ?_ | refine uLP_bM ?_ (fun _ => ?_) | refine uLQ_bM ?_ (fun _ => ?_) | refine uLP_bQ ?_ (fun _ _ => ?_) | refine uLQ_bQ ?_ (fun _ _ => ?_) | refine uLP_bind (fun _ => ?_) | refine uLQ_bind (fun _ => ?_) | dsimp only)
-- 7zap.drawn
/-! DRAWN -/
def s_dr (X : Int) : Int := (X * 1103515245 + 12345) % 2147483648
theorem dr_r {X : Int} : 0 ≤ s_dr X ∧ s_dr X < 2147483648 := by unfold s_dr; omega
def s_dk1 (q : Int × (Nat → Int32)) (h : Nat) : Int × (Nat → Int32) := if (s_dr q.1 / 65536) % 100 < (q.2 (39 + 2 * h)).toInt ∧ 0 < hs_n q.2 then (s_dr (s_dr q.1), s_kw q.2 h ((s_dr (s_dr q.1) / 65536) % (hs_n q.2 : Int)).toNat 0 0) else (s_dr q.1, q.2)
def s_dk (q : Int × (Nat → Int32)) : Nat → Int × (Nat → Int32)
  | 0 => q
  | h + 1 => s_dk1 (s_dk q h) h
noncomputable def s_dy (r : s_Ru) (q : Int × (Nat → Int32)) : Int × (Nat → Int32) := ((s_dk q (hs_m q.2)).1, (s_yr r (s_dk q (hs_m q.2)).2).2)
noncomputable def s_dn (r : s_Ru) (q : Int × (Nat → Int32)) : Nat → Int × (Nat → Int32)
  | 0 => q
  | k + 1 => s_dy r (s_dn r q k)
def s_sn (σ : Nat → Int32) : Nat := c_n (fun t => decide ((σ (13 + 4 * t)).toInt < 0)) (hs_n σ)
/-- runs: the number, what stands together, what is HELD together -/
noncomputable def s_dm (r : s_Ru) (X : Int) (ρ : Nat → Int32) (n : Nat) : Nat → Int × Nat × Nat
  | 0 => (X, 0, 0)
  | j + 1 => ((s_dn r ((s_dm r X ρ n j).1, ρ) n).1, (s_dm r X ρ n j).2.1 + s_sn (s_dn r ((s_dm r X ρ n j).1, ρ) n).2, (s_dm r X ρ n j).2.2 + s_al (s_dn r ((s_dm r X ρ n j).1, ρ) n).2)
/-- what stays over a drink -/
def s_dg (ρ : Nat → Int32) (q : Int × (Nat → Int32)) : Prop := (s_V q.2 ∧ 0 ≤ q.1) ∧ (∀ j, j < 59 → q.2 j = ρ j) ∧ ∀ j, 157 ≤ j → q.2 j = ρ j
theorem dg_nm {ρ : Nat → Int32} {q : Int × (Nat → Int32)} (D : s_dg ρ q) : hs_n q.2 = hs_n ρ ∧ hs_m q.2 = hs_m ρ := nm_of (fun j hj => D.2.1 j (by omega))
theorem dk_t {n : Nat} {X : Int} (hn : 0 < n) (h7 : n ≤ 7) : ((X / 65536) % (n : Int)).toNat < n := by
  have a := Int.emod_nonneg (X / 65536) (b := (n : Int)) (by omega)
  have b := Int.emod_lt_of_pos (X / 65536) (b := (n : Int)) (by omega)
  omega
theorem dk1_g {ρ : Nat → Int32} {q : Int × (Nat → Int32)} {h : Nat} (D : s_dg ρ q) (hh : h < hs_m ρ) : s_dg ρ (s_dk1 q h) := by
  obtain ⟨⟨V, hX⟩, D1, D2⟩ := D
  have nn := s_Vn V
  have nm := dg_nm ⟨⟨V, hX⟩, D1, D2⟩
  unfold s_dk1
  split
  · rename_i c
    have t := dk_t (X := s_dr (s_dr q.1)) c.2 nn.1.2
    refine ⟨⟨kw_V V (by omega) (by decide) (fun z => absurd z (by decide)), dr_r.1⟩, fun j hj => (kw_lo hj).trans (D1 j hj), fun j hj => ?_⟩
    exact (kw_hi (by omega) (by omega) hj).trans (D2 j hj)
  · exact ⟨⟨V, dr_r.1⟩, D1, D2⟩
theorem dk_g {ρ : Nat → Int32} {X : Int} (V : s_V ρ) (hX : 0 ≤ X) : ∀ h, h ≤ hs_m ρ → s_dg ρ (s_dk (X, ρ) h) := by
  intro h
  induction h with
  | zero => intro _; exact ⟨⟨V, hX⟩, fun _ _ => rfl, fun _ _ => rfl⟩
  | succ h ih => intro hh; exact dk1_g (ih (by omega)) (by omega)
/-- after k YEARS -/
theorem dn_g {r : s_Ru} {ρ : Nat → Int32} {X : Int} (V : s_V ρ) (hX : 0 ≤ X) (hy : 0 ≤ (ρ 4).toInt ∧ (ρ 4).toInt ≤ 999) : ∀ k, k ≤ 100 → ((s_V (s_dn r (X, ρ) k).2 ∧ 0 ≤ (s_dn r (X, ρ) k).1) ∧ ((s_dn r (X, ρ) k).2 4).toInt = (ρ 4).toInt + k) ∧ ∀ j, j < 10 → j ≠ 4 → (s_dn r (X, ρ) k).2 j = ρ j := by
  intro k
  induction k with
  | zero => intro _; exact ⟨⟨⟨V, hX⟩, by show (ρ 4).toInt = (ρ 4).toInt + 0; omega⟩, fun _ _ _ => rfl⟩
  | succ k ih =>
    intro hk
    obtain ⟨⟨⟨a1, a2⟩, a3⟩, a4⟩ := ih (by omega)
    have D := dk_g (ρ := (s_dn r (X, ρ) k).2) (X := (s_dn r (X, ρ) k).1) a1 a2 _ (Nat.le_refl _)
    have e4 := D.2.1 4 (by decide)
    refine ⟨⟨⟨yr_Vx D.1.1 (by rw [e4]; omega), D.1.2⟩, ?_⟩, fun j h1 h2 => (yr_lo D.1.1 h1 h2).trans ((D.2.1 j (by omega)).trans (a4 j h1 h2))⟩
    show ((s_yr r (s_dk ((s_dn r (X, ρ) k).1, (s_dn r (X, ρ) k).2) (hs_m (s_dn r (X, ρ) k).2)).2).2 4).toInt = _
    rw [yr_4 D.1.1, e4, i_addc (n := 1) rfl (by omega) (by omega)]
    omega
theorem dn_nm {r : s_Ru} {ρ : Nat → Int32} {X : Int} (V : s_V ρ) (hX : 0 ≤ X) (hy : 0 ≤ (ρ 4).toInt ∧ (ρ 4).toInt ≤ 999) {k : Nat} (hk : k ≤ 100) : hs_n (s_dn r (X, ρ) k).2 = hs_n ρ ∧ hs_m (s_dn r (X, ρ) k).2 = hs_m ρ := nm_of (fun j hj => (dn_g V hX hy k hk).2 j (by omega) (by omega))
theorem dm_g {r : s_Ru} {ρ : Nat → Int32} {X : Int} {n : Nat} (V : s_V ρ) (hX : 0 ≤ X) (hy : 0 ≤ (ρ 4).toInt ∧ (ρ 4).toInt ≤ 999) (hn : n ≤ 100) : ∀ j, 0 ≤ (s_dm r X ρ n j).1 ∧ (s_dm r X ρ n j).2.1 ≤ 49 * j ∧ (s_dm r X ρ n j).2.2 ≤ 49 * j := by
  intro j
  induction j with
  | zero => exact ⟨hX, Nat.le_refl _, Nat.le_refl _⟩
  | succ j ih =>
    have g := dn_g (r := r) V ih.1 hy n hn
    have a := s_al_le g.1.1.1
    have nn := s_Vn g.1.1.1
    have b : s_sn (s_dn r ((s_dm r X ρ n j).1, ρ) n).2 ≤ 7 := Nat.le_trans (c_n_le _) nn.1.2
    refine ⟨g.1.1.2, ?_, ?_⟩
    · show (s_dm r X ρ n j).2.1 + s_sn _ ≤ _
      omega
    · show (s_dm r X ρ n j).2.2 + s_al _ ≤ _
      omega
/-! of the class -/
def q_X (M0 : gM) (e : Nat) (X : Int) (M : gM) (σ : Nat → Int32) : Prop := ∃ x : Int32, x.toInt = X ∧ q_C (mI M0 2 14 x) M e σ
theorem q_B_x {M0 : gM} {e : Nat} {r : s_Ru} {ρ : Nat → Int32} {x : Int32} (B : q_B M0 e r ρ) : q_B (mI M0 2 14 x) e r ρ := by
  obtain ⟨⟨⟨G, hl⟩, r11, X⟩, rc, Rr, ⟨Cr, h6⟩, hf, er⟩ := B
  have wh := X.1.2
  have f : w_F (fun i => i = 2) M0 (mI M0 2 14 x) := w_F_mI rfl
  refine ⟨⟨⟨k_G_eq G rfl rfl, hl⟩, r11, w_X_F X f (fun i a b => by omega) (fun i a b => by unfold w_h at wh; omega)⟩, rc, Rr, ⟨w_Cr_F Cr hl f (mI_ne (by omega)) (fun i z => by omega), h6⟩, ?_, ?_⟩
  · rw [mI_ne (by omega)]
    exact hf
  · rw [mI_ne (by omega)]
    exact er
theorem q_C_x {M0 M : gM} {e : Nat} {r : s_Ru} {ρ σ : Nat → Int32} {x y : Int32} (B : q_B M0 e r ρ) (Q : q_C (mI M0 2 14 x) M e σ) : q_C (mI M0 2 14 y) (mI M 2 14 y) e σ := by
  have wh := B.1.2.2.1.2
  refine ⟨⟨⟨Q.1.1.1, Q.1.1.2⟩, fun i a b => ?_⟩, ?_⟩
  · by_cases c : i = 2
    · subst c
      funext k
      have := congrFun (Q.1.2 2 a b) k
      rw [mI_if, mI_if]
      rw [mI_if] at this
      by_cases k14 : k = 14
      · rw [if_pos ⟨rfl, k14⟩, if_pos ⟨rfl, k14⟩]
      · rw [if_neg (fun z => k14 z.2), if_neg (fun z => k14 z.2), this, if_neg (fun z => k14 z.2)]
    · funext k
      have := congrFun (Q.1.2 i a b) k
      rw [mI_ne (Or.inl c)] at this
      rw [mI_ne (Or.inl c), mI_ne (Or.inl c), this]
  · have X := Q.2
    exact ⟨⟨k_LEm X.1.1 (fun i => rfl) rfl, k_LSm X.1.2 (fun i => rfl) rfl⟩, ⟨k_Em X.2.1.1 (fun i k h1 h2 _ => mI_ne (by unfold w_h at wh; omega)), k_Sm X.2.1.2 (fun i k h1 h2 => mI_ne (by omega))⟩, X.2.2⟩
theorem C_draw {M0 M : gM} {e : Nat} {r : s_Ru} {ρ σ : Nat → Int32} {X : Int} (B : q_B M0 e r ρ) (Q : q_X M0 e X M σ) (hX : 0 ≤ X) : Ok (F_X11_draw (some 2) M) (fun q => q.1.toInt = s_dr X / 65536 ∧ q_X M0 e (s_dr X) q.2 σ) := by
  obtain ⟨x, hx, Q⟩ := Q
  have G := (q_G (q_B_x B) Q.1).1.1
  have g2 := G_k2 G
  have ex : M.2.1 2 14 = x := by
    rw [Q.1.2 2 (by omega) (by omega)]
    exact y_mI1
  have xr := i_rng x
  delta F_X11_draw F_X11_draw_b0
  refine x_gI g2 ex (x_pI g2 ?_)
  have hl := q_lcg (v := x) (by omega)
  rw [hx] at hl
  obtain ⟨y, hy⟩ : ∃ y : Int32, y = (((((x).toInt64 * (1103515245 : Int64)) + (12345 : Int64)) - (((x).toInt64 * (1103515245 : Int64)) + (12345 : Int64)) / (2147483648 : Int64) * (2147483648 : Int64))).toInt32 := ⟨_, rfl⟩
  rw [← hy] at hl ⊢
  have g2' : g_k (mI M 2 14 y) 2 = (11, 0) := g2
  refine x_gI g2' y_mI1 (Ok_s ⟨?_, y, hl, q_C_x B Q⟩)
  have d := dr_r (X := X)
  have e : y.toInt = s_dr X := hl
  have := i_div (x := y) (c := (65536 : Int32)) (n := 65536) rfl (by decide) (by omega)
  dsimp only
  rw [this, e]
theorem C_drink_L2 {M0 : gM} {e : Nat} {r : s_Ru} {ρ : Nat → Int32} {σ : Nat → Int32} {X : Int} (B : q_B M0 e r ρ) (V : s_V σ) (hX : 0 ≤ X) : ∀ (n h : Nat) {l1 : Int32} {M : gM}, q_X M0 e (s_dk (X, σ) h).1 M (s_dk (X, σ) h).2 → l1.toInt = (h : Int) → h ≤ hs_m σ → hs_m σ - h < n → Ok (F_X11_drinkLater_L2 n (some 2) l1 M) (fun M' => q_X M0 e (s_dk (X, σ) (hs_m σ)).1 M' (s_dk (X, σ) (hs_m σ)).2) := by
  have nn := s_Vn V
  have wh := B.1.2.2.1.2
  have z0 : (0 : Int32).toInt = 0 := rfl
  intro n
  induction n with
  | zero => intro h l1 M _ _ _ _; omega
  | succ n ih =>
    intro h l1 M Q hl hh hn
    have D := dk_g V hX h hh
    have nm := dg_nm D
    have nn1 := s_Vn D.1.1
    obtain ⟨x, hx, Q'⟩ := Q
    obtain ⟨⟨G, r11⟩, _⟩ := q_G (q_B_x B) Q'.1
    have g2 := G_k2 G
    obtain ⟨⟨ke, ⟨e6, e7⟩, _⟩, _⟩ := k_XE Q'.2
    show Ok (F_X11_drinkLater_b2 (F_X11_drinkLater_L2 n) (some 2) l1 M) _
    delta F_X11_drinkLater_b2
    refine x_gR g2 r11 (x_gI ke e7 ?_)
    by_cases c : (s_dk (X, σ) h).2 2 ≤ l1
    · have := i_le c
      have eh : h = hs_m σ := by omega
      subst eh
      exact Ok_t c (Ok_s ⟨x, hx, Q'⟩)
    · have := i_nle c
      refine Ok_e c (x_gO g2 (Ok_b (C_draw B ⟨x, hx, Q'⟩ D.1.2) (fun q z => ?_)))
      obtain ⟨v4, M5⟩ := q
      obtain ⟨z1, z2⟩ := z
      dsimp only at z1 z2 ⊢
      obtain ⟨x5, hx5, Q5⟩ := z2
      obtain ⟨⟨G5, r5⟩, _⟩ := q_G (q_B_x B) Q5.1
      have k5 := k_XE Q5.2
      have R3 : g_k M5 (e + 4) = (20, 7) ∧ M5.2.2.2 e 3 = some (e + 4) := k_XR (i := 3) Q5.2 (by decide)
      have e39 : M5.2.1 (e + 4) h = (s_dk (X, σ) h).2 (39 + 2 * h) := (Q5.2.2.1.1.2.2.2 h (by omega)).1
      have m100 := i_mod (x := v4) (c := (100 : Int32)) (n := 100) rfl (by decide) (by have := dr_r (X := (s_dk (X, σ) h).1); omega)
      rw [z1] at m100
      have skip : ∀ {s0 : Int32}, (s0 = 0 ∨ hs_n σ = 0) → s_dk (X, σ) (h + 1) = (s_dr (s_dk (X, σ) h).1, (s_dk (X, σ) h).2) → Ok (F_X11_drinkLater_b37 (F_X11_drinkLater_L2 n) (some 2) l1 s0 M5) (fun M' => q_X M0 e (s_dk (X, σ) (hs_m σ)).1 M' (s_dk (X, σ) (hs_m σ)).2) := by
        intro s0 hs es
        have go : Ok (F_X11_drinkLater_b72 (F_X11_drinkLater_L2 n) (some 2) l1 M5) (fun M' => q_X M0 e (s_dk (X, σ) (hs_m σ)).1 M' (s_dk (X, σ) (hs_m σ)).2) := by
          delta F_X11_drinkLater_b72
          exact ih (h + 1) (by rw [es]; exact ⟨x5, hx5, Q5⟩) (i_nx hl (by omega)) (by omega) (by omega)
        delta F_X11_drinkLater_b37
        refine Ok_i (fun _ => go) (fun d => ?_)
        have hs0 : hs_n σ = 0 := by
          rcases hs with z | z
          · exact absurd z d
          · exact z
        refine x_gR (G_k2 G5) r5 (x_gI k5.1.1 k5.1.2.1.1 (Ok_t (Int32.le_iff_toInt_le.mpr (by omega)) go))
      refine x_gR (G_k2 G5) r5 (x_gR k5.1.1 R3.2 (x_aI R3.1 hl (by omega) e39 ?_))
      have un : s_dk (X, σ) (h + 1) = s_dk1 (s_dk (X, σ) h) h := rfl
      refine Ok_i (fun d => ?_) (fun d => ?_)
      · have := i_le d
        refine skip (Or.inl rfl) ?_
        rw [un]
        unfold s_dk1
        rw [if_neg (by omega)]
      · have := i_nle d
        by_cases n0 : hs_n σ = 0
        · refine skip (Or.inr n0) ?_
          rw [un]
          unfold s_dk1
          rw [if_neg (by omega)]
        · delta F_X11_drinkLater_b37 F_X11_drinkLater_b72
          refine Ok_e (by decide) (x_gR (G_k2 G5) r5 (x_gI k5.1.1 k5.1.2.1.1 (Ok_e (fun z => by have := i_le z; omega) ?_)))
          refine x_gR (G_k2 G5) (G_r6 G5) (x_gO (G_k2 G5) ?_)
          refine Ok_b (C_draw B ⟨x5, hx5, Q5⟩ dr_r.1) (fun q z => ?_)
          obtain ⟨v5, M6⟩ := q
          obtain ⟨y1, y2⟩ := z
          dsimp only at y1 y2 ⊢
          obtain ⟨x6, hx6, Q6⟩ := y2
          obtain ⟨⟨G6, r6⟩, _⟩ := q_G (q_B_x B) Q6.1
          have k6 := k_XE Q6.2
          have t := dk_t (X := s_dr (s_dr (s_dk (X, σ) h).1)) (n := hs_n (s_dk (X, σ) h).2) (by omega) (by omega)
          have a := Int.emod_nonneg (s_dr (s_dr (s_dk (X, σ) h).1) / 65536) (b := (hs_n (s_dk (X, σ) h).2 : Int)) (by omega)
          have mo := i_mod (x := v5) (c := (s_dk (X, σ) h).2 1) nn1.1.1 (by omega) (by have := dr_r (X := s_dr (s_dk (X, σ) h).1); omega)
          rw [y1] at mo
          refine x_gR (G_k2 G6) r6 (x_gI k6.1.1 k6.1.2.1.1 (Ok_e (fun z => by rw [z] at nn1; omega) ?_))
          refine x_gO (k_LS_of G6 (s := 14) (by decide)).1.1 ?_
          refine Ok_b (C_forgetX (a := 0) (h := h) (t := ((s_dr (s_dr (s_dk (X, σ) h).1) / 65536) % (hs_n (s_dk (X, σ) h).2 : Int)).toNat) Q6.2 (by unfold w_h at wh; omega) hl (by rw [mo]; omega) (by omega) (by omega)) (fun M11 z => ?_)
          have es : s_dk (X, σ) (h + 1) = (s_dr (s_dr (s_dk (X, σ) h).1), s_kw (s_dk (X, σ) h).2 h ((s_dr (s_dr (s_dk (X, σ) h).1) / 65536) % (hs_n (s_dk (X, σ) h).2 : Int)).toNat 0 0) := by
            rw [un]
            unfold s_dk1
            rw [if_pos (by omega)]
          exact ih (h + 1) (by rw [es]; exact ⟨x6, hx6, q_F_t Q6.1 (q_F_s z.1), z.2⟩) (i_nx hl (by omega)) (by omega) (by omega)
-- 7zaq.drawn2
/-! DRAWN: of both -/
theorem lw9_qryX {L S : Nat} {lo hi lo2 hi2 : Int} {M : gM} {o1 : Option (Int32 × gM)} {o2 : gM → Option (Int32 × gM)} (R : lw9 L M) (z1 : Ok o1 (q_PX M lo hi 2 (M.2.1 2 14))) (z2 : ∀ M1, y_HT M1 → y_W M1 → Ok (o2 M1) (y_PI S M1 lo2 hi2)) (hW : Nat.land S y_wb = 0) (hS : Nat.land S (2 ^ 1 + 2 ^ 2 + 2 ^ 41) = 0) (h6 : Nat.land S (2 ^ 21 + 2 ^ 22 + 2 ^ 59 + 2 ^ 60 + 2 ^ 61) = 0) (h9 : Nat.land S (2 ^ 2 + 2 ^ 25 + 2 ^ 42 + 2 ^ 44 + 2 ^ 45 + 2 ^ 52 + 2 ^ 58) = 0)
    (c : 0 ≤ (M.2.1 2 14).toInt → ∀ (e : Nat) (σ : Nat → Int32) (nx sz : Nat) (P I : Nat → Nat → Int32) (rc : Nat) (Rr : Nat → List (Nat × Int32) × List (Nat × Nat × Nat)), w_C M e σ nx sz P I rc Rr → rc ≤ 6 → (M.2.1 2 13).toInt < (rc : Int) → ∃ w : Int32, Ok o1 (fun q => q.1 = w ∧ w_F q_N M q.2) ∧ ∀ M1, e_V M1 σ → w_E M1 σ sz P I rc Rr → M1.2.1 175 21 = M.2.1 2 13 → M1.2.1 175 22 = M.2.1 2 14 → Ok (o2 M1) (fun q => q.1 = w ∧ ∀ j, j < 157 → q.2.2.1 185 j = σ j)) : lw_42 L M o1 o2 := by
  obtain ⟨R8, e, σ, nx, sz, P, I, rc, Rr, C, E⟩ := R
  have W0 := R8.1.1.1.1.2
  have rc2 : (M.2.1 175 2).toInt = (rc : Int) := E.2.2.1
  have H0 := R8.1.1.1.1.1.2
  have r6 : rc ≤ 6 := by
    have := (H0.2.1 175 (by decide) 2).2
    have q : (y_tI 175 2).2 = 6 := rfl
    rw [q] at this
    omega
  have f13 := R8.1.2.1.1
  have f14 := R8.1.2.1.2
  have x0 : 0 ≤ (M.2.1 2 14).toInt := by
    have := (H0.2.1 175 (by decide) 22).1
    have q : (y_tI 175 22).1 = 0 := rfl
    rw [q] at this
    rw [f14]
    exact this
  have hf : (M.2.1 2 13).toInt < (rc : Int) := by
    rw [f13, ← rc2]
    exact W0.1.1
  obtain ⟨w, c1, c2⟩ := c x0 e σ nx sz P I rc Rr C r6 hf
  obtain ⟨⟨w1, M1⟩, e1, y1, q1, F1⟩ := Ok_and z1 c1
  dsimp only at q1 F1
  subst q1
  have fx := q_Fx_of (a := 151) y1.1.2.2
  have R1 : lw8 L M1 := ⟨⟨lw_cls R8.1.1 y1.1.2.1 y1.1.2.2 rfl rfl rfl, g6_of R8.1.2 (g6_cC R8.1.1.1 y1.1.2.2 (g6_b R8.1.1.1 y1.1.2.2 rfl) y1.2) (g6_cE fx)⟩, lw8_c R8.1.1.1 R8.2 y1.1.2.2⟩
  have s1 : M1.2.1 0 = M.2.1 0 := lw_s_cls fx
  have rr : ∀ i, y_cs i → M1.2.1 i = M.2.1 i := lw_rc fx
  have hl := lw8_len R8.1.1.1
  have n2 := w_FN F1 hl (by unfold q_N; omega)
  have C1 := w_C_F C hl F1 (by rw [n2.2]) (by rw [n2.1]) (fun i z => by unfold q_N at z; omega)
  have E1 := w_E_c E rr
  have H1 := R1.1.1.1.1.1.2
  have X1 : e_V M1 σ := ⟨H1, E1.1.1.1, C.1.1.2.1.1.2.2⟩
  obtain ⟨⟨w2, M2⟩, e2, y2, q2, E2⟩ := Ok_and (z2 M1 H1 R1.1.1.1.1.2) (c2 M1 X1 E1 (by rw [rr 175 (by decide)]; exact f13.symm) (by rw [rr 175 (by decide)]; exact f14.symm))
  dsimp only at q2 E2
  subst q2
  obtain ⟨R2, s2⟩ := lw8_gr R1 hW hS h6 y2
  exact ⟨_, M1, M2, ⟨e1, R1.1.1.1, s1⟩, e2, ⟨R2, e, M2.2.1 185, nx, sz, P, I, rc, Rr, w_C_congr (w_C_r C1 (lw8_len R1.1.1.1) y2.2.2) E2, w_E_r E1 y2.2.2 h9 rfl⟩, s2.trans s1⟩
theorem o_add {a b : Nat} (h : a + b < 1000) : Int32.ofNat a + Int32.ofNat b = Int32.ofNat (a + b) := by
  have oa : (Int32.ofNat a).toInt = _ := i_ofNat (by omega)
  have ob : (Int32.ofNat b).toInt = _ := i_ofNat (by omega)
  refine Int32.toInt_inj.mp ?_
  rw [i_add (by omega) (by omega), i_ofNat (n := a + b) (by omega)]
  omega
theorem C_drink {M0 M : gM} {e : Nat} {r : s_Ru} {ρ : Nat → Int32} {q : Int × (Nat → Int32)} (B : q_B M0 e r ρ) (V : s_V q.2) (hX : 0 ≤ q.1) (Q : q_X M0 e q.1 M q.2) : Ok (F_X11_drinkLater (some 2) M) (fun M' => q_X M0 e (s_dk q (hs_m q.2)).1 M' (s_dk q (hs_m q.2)).2) := by
  have nn := s_Vn V
  delta F_X11_drinkLater F_X11_drinkLater_b0
  exact C_drink_L2 B V hX g_fuel 0 (l1 := 0) Q rfl (Nat.zero_le _) (n_fu (by omega))
theorem C_drawn_L75 {M0 : gM} {e : Nat} {r : s_Ru} {ρ : Nat → Int32} {X0 : Int} {nn S : Nat} {l1 l2 l3 x0 l6 : Int32} {P : Int32 × gM → Prop} {k55 : Option Nat → Int32 → Int32 → Int32 → Int32 → Int32 → Int32 → gM → Option (Int32 × gM)} (B : q_B M0 e r ρ) (V : s_V ρ) (hy : 0 ≤ (ρ 4).toInt ∧ (ρ 4).toInt ≤ 999) (hX : 0 ≤ X0) (h2 : l2.toInt = (nn : Int)) (hn60 : nn ≤ 60) (hS : S ≤ 490)
    (hk : ∀ {M : gM}, q_X M0 e (s_dn r (X0, ρ) nn).1 M (s_dn r (X0, ρ) nn).2 → Ok (k55 (some 2) l1 l2 l3 x0 (Int32.ofNat (S + (if l3 = 0 then s_sn (s_dn r (X0, ρ) nn).2 else s_al (s_dn r (X0, ρ) nn).2))) (l6 + 1) M) P) : ∀ (n k : Nat) {l7 : Int32} {M : gM}, q_X M0 e (s_dn r (X0, ρ) k).1 M (s_dn r (X0, ρ) k).2 → l7.toInt = (k : Int) → k ≤ nn → nn - k < n → Ok (F_X11_drawn_L75 k55 n (some 2) l1 l2 l3 x0 (Int32.ofNat S) l6 l7 M) P := by
  intro n
  induction n with
  | zero => intro k l7 M _ _ _ _; omega
  | succ n ih =>
    intro k l7 M Q hl hkn hn
    have g := dn_g (r := r) V hX hy k (by omega)
    show Ok (F_X11_drawn_b75 k55 (F_X11_drawn_L75 k55 n) (some 2) l1 l2 l3 x0 (Int32.ofNat S) l6 l7 M) P
    delta F_X11_drawn_b75 F_X11_drawn_b145
    by_cases c : l2 ≤ l7
    · have := i_le c
      have e0 : k = nn := by omega
      subst e0
      obtain ⟨x, hx, Q'⟩ := Q
      obtain ⟨⟨G, r11⟩, _⟩ := q_G (q_B_x B) Q'.1
      have g2 := G_k2 G
      obtain ⟨_, ⟨⟨ks, _⟩, _⟩, _⟩ := k_XE Q'.2
      have nv := s_Vn g.1.1.1
      have al := s_al_le g.1.1.1
      have sn : s_sn (s_dn r (X0, ρ) k).2 ≤ 7 := Nat.le_trans (c_n_le _) nv.1.2
      refine Ok_t c ?_
      by_cases d : l3 = 0
      · have hk' := @hk M ⟨x, hx, Q'⟩
        rw [if_pos d] at hk'
        have bc : F_J6_bitCount_0f7a4 (s_sd (s_dn r (X0, ρ) k).2) M = some (Int32.ofNat (s_sn (s_dn r (X0, ρ) k).2)) := by
          unfold s_sd
          rw [C_bitCount nv.1.2, c_n_cn _ (by omega)]
          rfl
        refine Ok_t d (x_gR g2 (G_r6 G) (x_gR g2 r11 (x_gO ks (x_eq (C_standing Q'.2) (x_eq bc ?_)))))
        rw [o_add (by omega)]
        exact hk'
      · have hk' := @hk M ⟨x, hx, Q'⟩
        rw [if_neg d] at hk'
        refine Ok_e d (x_gR g2 (G_r6 G) (x_gR g2 r11 (x_gO ks (x_eq (C_heldTogether Q'.2) ?_))))
        rw [o_add (by omega)]
        exact hk'
    · have := i_nle c
      have G0 : g_k M 2 = (11, 0) := by
        obtain ⟨x, hx, Q'⟩ := Q
        exact G_k2 (q_G (q_B_x B) Q'.1).1.1
      refine Ok_e c (x_gO G0 (Ok_b (C_drink B g.1.1.1 g.1.1.2 Q) (fun M11 z => ?_)))
      obtain ⟨x, hx, Q1⟩ := z
      have Bx := q_B_x (x := x) B
      obtain ⟨⟨G, r11⟩, _⟩ := q_G Bx Q1.1
      have g2 := G_k2 G
      have D := dk_g g.1.1.1 g.1.1.2 _ (Nat.le_refl (hs_m (s_dn r (X0, ρ) k).2))
      have e4 := D.2.1 4 (by decide)
      refine x_gR g2 (G_r4 G) (x_gR g2 r11 (x_gR g2 (G_r6 G) (x_gC g2 ?_)))
      refine Ok_b (C_q_rule Bx Q1.1) (fun rl J => ?_)
      refine x_gO (G_k4 G) (Ok_b (C_q_year Bx Q1 (by rw [show (s_dk (s_dn r (X0, ρ) k) (hs_m (s_dn r (X0, ρ) k).2)).2 4 = (s_dn r (X0, ρ) k).2 4 from e4]; omega) J) (fun q z => ?_))
      obtain ⟨v, M19⟩ := q
      exact ih (k + 1) ⟨x, hx, z⟩ (i_nx hl (by omega)) (by omega) (by omega)
def s_dw (l3 : Int32) (q : Int × Nat × Nat) : Nat := if l3 = 0 then q.2.1 else q.2.2
theorem C_drawn_L55 {M0 : gM} {e : Nat} {r : s_Ru} {ρ : Nat → Int32} {X0 : Int} {nn jj : Nat} {l1 l2 l3 : Int32} (B : q_B M0 e r ρ) (V : s_V ρ) (hy : 0 ≤ (ρ 4).toInt ∧ (ρ 4).toInt ≤ 999) (hX : 0 ≤ X0) (h1 : l1.toInt = (jj : Int)) (hj10 : jj ≤ 10) (h2 : l2.toInt = (nn : Int)) (hn60 : nn ≤ 60) : ∀ (n j : Nat) {l5 l6 : Int32} {M : gM}, (∃ x : Int32, x.toInt = (s_dm r X0 ρ nn j).1 ∧ q_F (mI M0 2 14 x) M) → l5 = Int32.ofNat (s_dw l3 (s_dm r X0 ρ nn j)) → l6.toInt = (j : Int) → j ≤ jj → jj - j < n → Ok (F_X11_drawn_L55 n (some 2) l1 l2 l3 (M0.2.1 2 14) l5 l6 M) (fun q => q.1 = Int32.ofNat (s_dw l3 (s_dm r X0 ρ nn jj)) ∧ w_F q_N M0 q.2) := by
  intro n
  induction n with
  | zero => intro j l5 l6 M _ _ _ _ _; omega
  | succ n ih =>
    intro j l5 l6 M Q h5 hl hj hn
    have g := dm_g (r := r) (n := nn) V hX hy (by omega) j
    obtain ⟨x, hx, f⟩ := Q
    have Bx := q_B_x (x := x) B
    obtain ⟨⟨G, r11⟩, _⟩ := q_G Bx f
    have g2 := G_k2 G
    show Ok (F_X11_drawn_b55 (F_X11_drawn_L55 n) (some 2) l1 l2 l3 (M0.2.1 2 14) l5 l6 M) _
    delta F_X11_drawn_b55
    by_cases c : l1 ≤ l6
    · have := i_le c
      have e0 : j = jj := by omega
      subst e0
      refine Ok_t c (x_pI g2 (Ok_s ⟨h5, q_F_w ⟨⟨f.1.1, f.1.2⟩, fun i a b => ?_⟩⟩))
      have := f.2 i a b
      funext k
      have t := congrFun this k
      rw [mI_if]
      rw [mI_if] at t
      by_cases z : i = 2 ∧ k = 14
      · rw [if_pos z, z.1, z.2]
      · rw [if_neg z]
        rw [if_neg z] at t
        exact t
    · have := i_nle c
      refine Ok_e c (x_gR g2 (G_r6 G) (x_gR g2 (G_r5 G) (x_gO (k_LS_of G (s := 14) (by decide)).1.1 ?_)))
      refine Ok_b (C_q_copy Bx f) (fun M5 Q5 => ?_)
      have sb : s_dw l3 (s_dm r X0 ρ nn j) ≤ 490 := by
        unfold s_dw
        split <;> omega
      rw [h5]
      refine C_drawn_L75 (k55 := F_X11_drawn_L55 n) (e := e) (r := r) (ρ := ρ) (X0 := (s_dm r X0 ρ nn j).1) (nn := nn) B V hy g.1 h2 hn60 sb (fun {M6} Q6 => ?_) g_fuel 0 (l7 := 0) ⟨x, hx, Q5⟩ rfl (Nat.zero_le _) (n_fu (by omega))
      obtain ⟨x6, hx6, Q6⟩ := Q6
      refine ih (j + 1) ⟨x6, hx6, Q6.1⟩ ?_ (i_nx hl (by omega)) (by omega) (by omega)
      congr 1
      unfold s_dw
      show _ = (if l3 = 0 then (s_dm r X0 ρ nn j).2.1 + s_sn _ else (s_dm r X0 ρ nn j).2.2 + s_al _)
      split <;> rfl
/-! of the reference -/
def e_D (r : s_Ru) (ρ : Nat → Int32) (X : Int) (M : gM) (σ : Nat → Int32) : Prop := e_Q r ρ M σ ∧ (M.2.2.1 175 32).toInt = X
theorem E_draw {M : gM} {r : s_Ru} {ρ σ : Nat → Int32} {X : Int} {l1 : Int32} {m : Nat} (D : e_D r ρ X M σ) (h1 : l1.toInt = (m : Int)) (hm : 0 < m) : Ok (F_X12_draw (some 175) l1 M) (fun q => q.1.toInt = (s_dr X / 65536) % (m : Int) ∧ e_D r ρ (s_dr X) q.2 σ) := by
  obtain ⟨Q, hX⟩ := D
  have H := Q.1.1.1
  delta F_X12_draw F_X12_draw_b0
  have z31 : (2147483648 : Int64).toInt = 2147483648 := rfl
  have z16 : (65536 : Int64).toInt = 65536 := rfl
  refine y_gL H (fun v1 q1 => ?_)
  have hv := H.2.2
  rw [q1] at hv hX
  have a1 : (v1 * (1103515245 : Int64)).toInt = v1.toInt * 1103515245 := by
    rw [Int64.toInt_mul]
    exact j_bm (by show -9223372036854775808 ≤ v1.toInt * 1103515245; omega) (by show v1.toInt * 1103515245 ≤ 9223372036854775807; omega)
  have a2 : (v1 * (1103515245 : Int64) + (12345 : Int64)).toInt = v1.toInt * 1103515245 + 12345 := by
    rw [Int64.toInt_add, a1]
    exact j_bm (by show -9223372036854775808 ≤ v1.toInt * 1103515245 + 12345; omega) (by show v1.toInt * 1103515245 + 12345 ≤ 9223372036854775807; omega)
  have a5 := j_mod (x := v1 * (1103515245 : Int64) + (12345 : Int64)) (c := (2147483648 : Int64)) (by omega) (by decide)
  rw [a2, z31] at a5
  refine y_pL (S := 2 ^ 40) H (fun _ => by omega) (fun M2 H2 f2 o2 q2 => ?_)
  refine y_gL H2 (fun v3 q3 => ?_)
  have e3 : v3.toInt = s_dr X := by
    rw [← q3, q2, a5, hX]
    rfl
  have dr := dr_r (X := X)
  have hl : (l1.toInt64).toInt = l1.toInt := Int32.toInt_toInt64 l1
  refine Ok_e (fun e => ?_) ?_
  · rw [e] at hl
    have z : (0 : Int64).toInt = 0 := rfl
    omega
  have d1 : (v3 / (65536 : Int64)).toInt = v3.toInt / 65536 := by
    rw [Int64.toInt_div, z16, Int.tdiv_eq_ediv_of_nonneg (by omega)]
    exact j_bm (by omega) (by omega)
  have d2 := j_mod (x := v3 / (65536 : Int64)) (c := l1.toInt64) (by omega) (by omega)
  have d3 : 0 ≤ (v3 / (65536 : Int64)).toInt % l1.toInt64.toInt := Int.emod_nonneg _ (by omega)
  have d4 : (v3 / (65536 : Int64)).toInt % l1.toInt64.toInt < l1.toInt64.toInt := Int.emod_lt_of_pos _ (by omega)
  have hr := i_rng l1
  refine Ok_s ⟨?_, ⟨⟨e_V_fr Q.1.1 H2 f2 (by decide), e_I_m Q.1.2 f2 (by decide)⟩, fun j hj => by rw [y_fa (i := 188) f2 (by decide) (by decide) j]; exact Q.2.1 j hj, Q.2.2⟩, ?_⟩
  · dsimp only
    rw [Int64.toInt_toInt32, d2, i_bm (by omega) (by omega), d1, e3, hl, h1]
  · dsimp only
    rw [q2, a5, hX]
    rfl
theorem E_D_year {r : s_Ru} {ρ σ : Nat → Int32} {X : Int} {M : gM} (D : e_D r ρ X M σ) (hy : 0 ≤ (σ 4).toInt) : Ok (F_X12_passes (some 175) M) (fun q => e_D r ρ X q.2 (s_yr r σ).2) := by
  obtain ⟨q, eq, z⟩ := E_q_year D.1 hy
  have u := UL_X12_passes (some 175) M (y_k175 D.1.1.1.1) q eq
  exact ⟨q, eq, z.2, by rw [u.2]; exact D.2⟩
theorem E_D_knows {r : s_Ru} {ρ σ : Nat → Int32} {X : Int} {M : gM} {l1 l2 : Int32} {h t : Nat} (D : e_D r ρ X M σ) (h1 : l1.toInt = (h : Int)) (h2 : l2.toInt = (t : Int)) (hh : h < 7) (ht : t < 7) : Ok (F_X12_knowsNow (some 175) l1 l2 (-1 : Int32) (0 : Int32) M) (fun M' => e_D r ρ X M' (s_kw σ h t 0 0)) := by
  obtain ⟨M', em, f, X'⟩ := E_knowsNow (a := -1) (v := 0) D.1.1.1 h1 h2 hh ht (by decide) (fun z => absurd z (by decide))
  have u := UL_X12_knowsNow (some 175) l1 l2 (-1 : Int32) (0 : Int32) M (y_k175 D.1.1.1.1) M' em
  have es : s_kw σ h t (-1) 0 = s_kw σ h t 0 0 := rfl
  rw [es] at X'
  exact ⟨M', em, ⟨⟨X', e_I_m D.1.1.2 f (by decide)⟩, fun j hj => by rw [y_fa (i := 188) f (by decide) (by decide) j]; exact D.1.2.1 j hj, fun j hj => (kw_hi hh ht hj).trans (D.1.2.2 j hj)⟩, by rw [u.2]; exact D.2⟩
theorem E_drinks_L2 {r : s_Ru} {ρ σ : Nat → Int32} {X : Int} (V : s_V σ) (hX : 0 ≤ X) : ∀ (n h : Nat) {l1 : Int32} {M : gM}, e_D r ρ (s_dk (X, σ) h).1 M (s_dk (X, σ) h).2 → l1.toInt = (h : Int) → h ≤ hs_m σ → hs_m σ - h < n → Ok (F_X12_drinks_L2 n (some 175) l1 M) (fun M' => e_D r ρ (s_dk (X, σ) (hs_m σ)).1 M' (s_dk (X, σ) (hs_m σ)).2) := by
  have nn := s_Vn V
  have z0 : (0 : Int32).toInt = 0 := rfl
  intro n
  induction n with
  | zero => intro h l1 M _ _ _ _; omega
  | succ n ih =>
    intro h l1 M Q hl hh hn
    have D := dk_g V hX h hh
    have nm := dg_nm D
    have nn1 := s_Vn D.1.1
    show Ok (F_X12_drinks_b2 (F_X12_drinks_L2 n) (some 175) l1 M) _
    delta F_X12_drinks_b2
    rw [e_sd Q.1.1.1 (k := 2) rfl (by decide)]
    by_cases c : (s_dk (X, σ) h).2 2 ≤ l1
    · have := i_le c
      have eh : h = hs_m σ := by omega
      subst eh
      exact Ok_t c (Ok_s Q)
    · have := i_nle c
      refine Ok_e c (x_eq (e_gO Q.1.1.1.1) (Ok_b (E_draw Q (m := 100) rfl (by decide)) (fun q z => ?_)))
      obtain ⟨v4, M5⟩ := q
      obtain ⟨z1, Q5⟩ := z
      dsimp only at z1 Q5 ⊢
      have ix : (((38 : Int32) + ((2 : Int32) * l1)) + (1 : Int32)).toInt = ((39 + 2 * h : Nat) : Int) := by
        have m := i_mulL (c := (2 : Int32)) (x := l1) (n := 2) rfl (by omega) (by omega)
        have z38 : (38 : Int32).toInt = 38 := rfl
        have a : ((38 : Int32) + ((2 : Int32) * l1)).toInt = 38 + 2 * l1.toInt := by rw [i_add (by omega) (by omega)]; omega
        rw [i_addc (n := 1) rfl (by omega) (by omega)]
        omega
      rw [e_sd Q5.1.1.1 (k := 39 + 2 * h) ix (by omega)]
      have un : s_dk (X, σ) (h + 1) = s_dk1 (s_dk (X, σ) h) h := rfl
      have skip : s_dk (X, σ) (h + 1) = (s_dr (s_dk (X, σ) h).1, (s_dk (X, σ) h).2) → Ok (F_X12_drinks_b47 (F_X12_drinks_L2 n) (some 175) l1 M5) (fun M' => e_D r ρ (s_dk (X, σ) (hs_m σ)).1 M' (s_dk (X, σ) (hs_m σ)).2) := fun es => by
        delta F_X12_drinks_b47 F_X12_drinks_b48 F_X12_drinks_b70
        refine Ok_t rfl ?_
        exact ih (h + 1) (by rw [es]; exact Q5) (i_nx hl (by omega)) (by omega) (by omega)
      refine Ok_i (fun d => ?_) (fun d => ?_)
      · have := i_le d
        refine skip ?_
        rw [un]
        unfold s_dk1
        rw [if_neg (by omega)]
      · have := i_nle d
        rw [e_sd Q5.1.1.1 (k := 1) rfl (by decide)]
        refine Ok_i (fun d2 => ?_) (fun d2 => ?_)
        · have := i_le d2
          refine skip ?_
          rw [un]
          unfold s_dk1
          rw [if_neg (by omega)]
        · have := i_nle d2
          delta F_X12_drinks_b48 F_X12_drinks_b70
          refine Ok_e (by decide) ?_
          rw [e_sd Q5.1.1.1 (k := 1) rfl (by decide)]
          refine x_eq (e_gO Q5.1.1.1.1) (Ok_b (E_draw Q5 nn1.1.1 (by omega)) (fun q z => ?_))
          obtain ⟨v5, M6⟩ := q
          obtain ⟨z2, Q6⟩ := z
          dsimp only at z2 Q6 ⊢
          have t := dk_t (X := s_dr (s_dr (s_dk (X, σ) h).1)) (n := hs_n (s_dk (X, σ) h).2) (by omega) (by omega)
          have a := Int.emod_nonneg (s_dr (s_dr (s_dk (X, σ) h).1) / 65536) (b := (hs_n (s_dk (X, σ) h).2 : Int)) (by omega)
          refine x_eq (e_gC Q6.1.1.1.1) (Ok_b (E_D_knows (h := h) (t := ((s_dr (s_dr (s_dk (X, σ) h).1) / 65536) % (hs_n (s_dk (X, σ) h).2 : Int)).toNat) Q6 hl (by omega) (by omega) (by omega)) (fun M7 Q7 => ?_))
          have es : s_dk (X, σ) (h + 1) = (s_dr (s_dr (s_dk (X, σ) h).1), s_kw (s_dk (X, σ) h).2 h ((s_dr (s_dr (s_dk (X, σ) h).1) / 65536) % (hs_n (s_dk (X, σ) h).2 : Int)).toNat 0 0) := by
            rw [un]
            unfold s_dk1
            rw [if_pos (by omega)]
          exact ih (h + 1) (by rw [es]; exact Q7) (i_nx hl (by omega)) (by omega) (by omega)
theorem E_drinks {r : s_Ru} {ρ : Nat → Int32} {q : Int × (Nat → Int32)} {M : gM} (V : s_V q.2) (hX : 0 ≤ q.1) (Q : e_D r ρ q.1 M q.2) : Ok (F_X12_drinks (some 175) M) (fun M' => e_D r ρ (s_dk q (hs_m q.2)).1 M' (s_dk q (hs_m q.2)).2) := by
  have nn := s_Vn V
  delta F_X12_drinks F_X12_drinks_b0
  exact E_drinks_L2 V hX g_fuel 0 (l1 := 0) Q rfl (Nat.zero_le _) (n_fu (by omega))
theorem E_drawn_L74 {r : s_Ru} {ρ : Nat → Int32} {X0 : Int} {nn S T : Nat} {l1 l2 l3 l6 : Int32} {P : Int32 × gM → Prop} {k65 : Option Nat → Int32 → Int32 → Int32 → Int32 → Int32 → Int32 → gM → Option (Int32 × gM)} (V : s_V ρ) (hy : 0 ≤ (ρ 4).toInt ∧ (ρ 4).toInt ≤ 999) (hX : 0 ≤ X0) (h2 : l2.toInt = (nn : Int)) (hn60 : nn ≤ 60) (hS : S ≤ 490) (hT : T ≤ 490)
    (hk : ∀ {M : gM}, e_D r ρ (s_dn r (X0, ρ) nn).1 M ρ → Ok (k65 (some 175) l1 l2 l3 (Int32.ofNat (S + s_sn (s_dn r (X0, ρ) nn).2)) (Int32.ofNat (T + s_al (s_dn r (X0, ρ) nn).2)) (l6 + 1) M) P) : ∀ (n k : Nat) {l7 : Int32} {M : gM}, e_D r ρ (s_dn r (X0, ρ) k).1 M (s_dn r (X0, ρ) k).2 → l7.toInt = (k : Int) → k ≤ nn → nn - k < n → Ok (F_X12_drawn_L74 k65 n (some 175) l1 l2 l3 (Int32.ofNat S) (Int32.ofNat T) l6 l7 M) P := by
  intro n
  induction n with
  | zero => intro k l7 M _ _ _ _; omega
  | succ n ih =>
    intro k l7 M Q hl hkn hn
    have g := dn_g (r := r) V hX hy k (by omega)
    have H := Q.1.1.1.1
    show Ok (F_X12_drawn_b74 k65 (F_X12_drawn_L74 k65 n) (some 175) l1 l2 l3 (Int32.ofNat S) (Int32.ofNat T) l6 l7 M) P
    delta F_X12_drawn_b74
    by_cases c : l2 ≤ l7
    · have := i_le c
      have e0 : k = nn := by omega
      subst e0
      have nv := s_Vn g.1.1.1
      have al := s_al_le g.1.1.1
      have sn : s_sn (s_dn r (X0, ρ) k).2 ≤ 7 := Nat.le_trans (c_n_le _) nv.1.2
      have bc : F_X12_bits (s_sd (s_dn r (X0, ρ) k).2) M = some (Int32.ofNat (s_sn (s_dn r (X0, ρ) k).2)) := by
        unfold s_sd
        rw [E_bits nv.1.2, c_n_cn _ (by omega)]
        rfl
      refine Ok_t c (x_eq (e_gO H) (x_eq (E_standing Q.1.1.1) (x_eq bc (x_eq (E_allHolds Q.1.1.1) (Ok_b (E_q_lays V Q.1) (fun M5 z => ?_))))))
      rw [o_add (by omega), o_add (by omega)]
      exact hk ⟨z.1, by rw [z.2]; exact Q.2⟩
    · have := i_nle c
      refine Ok_e c (x_eq (e_gO H) (Ok_b (E_drinks g.1.1.1 g.1.1.2 Q) (fun M7 z => ?_)))
      have D := dk_g g.1.1.1 g.1.1.2 _ (Nat.le_refl (hs_m (s_dn r (X0, ρ) k).2))
      have e4 := D.2.1 4 (by decide)
      refine x_eq (e_gC z.1.1.1.1) (Ok_b (E_D_year z (by rw [show (s_dk (s_dn r (X0, ρ) k) (hs_m (s_dn r (X0, ρ) k).2)).2 4 = (s_dn r (X0, ρ) k).2 4 from e4]; omega)) (fun q z2 => ?_))
      obtain ⟨v, M10⟩ := q
      exact ih (k + 1) z2 (i_nx hl (by omega)) (by omega) (by omega)
theorem E_drawn_L65 {r : s_Ru} {ρ : Nat → Int32} {X0 : Int} {nn jj : Nat} {l1 l2 l3 : Int32} (V : s_V ρ) (hy : 0 ≤ (ρ 4).toInt ∧ (ρ 4).toInt ≤ 999) (hX : 0 ≤ X0) (h1 : l1.toInt = (jj : Int)) (hj10 : jj ≤ 10) (h2 : l2.toInt = (nn : Int)) (hn60 : nn ≤ 60) : ∀ (n j : Nat) {l6 : Int32} {M : gM}, e_D r ρ (s_dm r X0 ρ nn j).1 M ρ → l6.toInt = (j : Int) → j ≤ jj → jj - j < n → Ok (F_X12_drawn_L65 n (some 175) l1 l2 l3 (Int32.ofNat (s_dm r X0 ρ nn j).2.1) (Int32.ofNat (s_dm r X0 ρ nn j).2.2) l6 M) (fun q => q.1 = Int32.ofNat (s_dw l3 (s_dm r X0 ρ nn jj)) ∧ ∀ j, j < 157 → q.2.2.1 185 j = ρ j) := by
  intro n
  induction n with
  | zero => intro j l6 M _ _ _ _; omega
  | succ n ih =>
    intro j l6 M Q hl hj hn
    have g := dm_g (r := r) (n := nn) V hX hy (by omega) j
    show Ok (F_X12_drawn_b65 (F_X12_drawn_L65 n) (some 175) l1 l2 l3 _ _ l6 M) _
    delta F_X12_drawn_b65
    by_cases c : l1 ≤ l6
    · have := i_le c
      have e0 : j = jj := by omega
      subst e0
      refine Ok_t c (Ok_i (fun d => Ok_s ⟨?_, q_done Q.1⟩) (fun d => Ok_s ⟨?_, q_done Q.1⟩))
      · unfold s_dw
        rw [if_pos d]
      · unfold s_dw
        rw [if_neg d]
    · have := i_nle c
      refine Ok_e c ?_
      refine E_drawn_L74 (k65 := F_X12_drawn_L65 n) (r := r) (ρ := ρ) (X0 := (s_dm r X0 ρ nn j).1) (nn := nn) V hy g.1 h2 hn60 (by omega) (by omega) (fun {M6} Q6 => ?_) g_fuel 0 (l7 := 0) Q rfl (Nat.zero_le _) (n_fu (by omega))
      exact ih (j + 1) Q6 (i_nx hl (by omega)) (by omega) (by omega)
theorem lw9_drawn {L : Nat} {M : gM} {l1 l2 l3 : Int32} (R : lw9 L M) : lw_42 L M (F_X11_drawn (some 2) l1 l2 l3 M) (F_X12_drawn (some 175) l1 l2 l3) := by
  have R8 := R.1
  have G := R8.2
  have hl := lw8_len R8.1.1.1
  refine lw9_qryX R (S_X11_drawn R8.1.1.1.1.1.1 R8.1.1.1.2.1.1.1) (fun M1 H W => S_X12_drawn H W) (by decide) (by decide) (by decide) (by decide) (fun x0 e σ nx sz P I rc Rr C h6 hf => ?_)
  have X := C.1.1.2
  have k2 := G_k2 G
  have V := X.1.1.2.2
  have Q := X.2.2
  have B := q_B_of G hl C h6 hf
  have nn := s_Vn V
  have ke : g_k M e = (1, 0) := X.1.1.1.1.1
  have t5 := X.2.1
  have z0 : (0 : Int32).toInt = 0 := rfl
  have z1 : (1 : Int32).toInt = 1 := rfl
  have z10 : (10 : Int32).toInt = 10 := rfl
  have z60 : (60 : Int32).toInt = 60 := rfl
  by_cases good : ((1 ≤ l1.toInt ∧ l1.toInt ≤ 10) ∧ (1 ≤ l2.toInt ∧ l2.toInt ≤ 60) ∧ (0 ≤ l3.toInt ∧ l3.toInt ≤ 1)) ∧ 0 < (σ 0).toInt
  · obtain ⟨⟨p1, p2, p3⟩, kH⟩ := good
    obtain ⟨jj, hjj⟩ : ∃ N : Nat, l1.toInt = (N : Int) := ⟨l1.toInt.toNat, by omega⟩
    obtain ⟨N, hN⟩ : ∃ N : Nat, l2.toInt = (N : Int) := ⟨l2.toInt.toNat, by omega⟩
    rw [if_pos kH] at t5
    refine ⟨Int32.ofNat (s_dw l3 (s_dm (s_ru Rr (M.2.1 2 13)) (M.2.1 2 14).toInt σ N jj)), ?_, fun M1 X1 E1 f1 f2 => ?_⟩
    · delta F_X11_drawn F_X11_drawn_b0
      refine Ok_e (fun z => by have := i_lt z; omega) (Ok_e (fun z => by have := i_lt z; omega) (Ok_e (fun z => by have := i_lt z; omega) (Ok_e (fun z => by have := i_lt z; omega) (Ok_e (fun z => by have := i_lt z; omega) (Ok_e (fun z => by have := i_lt z; omega) ?_)))))
      refine x_gR k2 C.1.1.1 (x_gI ke t5 (Ok_e (by decide) (x_gI k2 rfl ?_)))
      exact C_drawn_L55 B V Q.1 x0 hjj (by omega) hN (by omega) g_fuel 0 (l5 := 0) (l6 := 0) ⟨M.2.1 2 14, rfl, ⟨rfl, rfl⟩, fun i _ _ => by funext k; rw [mI_if]; split <;> (first | rfl | (rename_i z; rw [z.1, z.2]))⟩ (by unfold s_dw; split <;> rfl) rfl (Nat.zero_le _) (n_fu (by omega))
    · have J := E_inForce E1 h6 (by rw [f1]; exact hf)
      rw [f1] at J
      delta F_X12_drawn F_X12_drawn_b0
      rw [e_gO X1.1, Option.bind_some, E_isHouseX X1, Option.bind_some, if_pos kH, if_neg (by decide), E_in (a := 1) (b := 10) rfl rfl, Option.bind_some, if_pos p1, if_neg (by decide), E_in (a := 1) (b := 60) rfl rfl, Option.bind_some, if_pos p2, if_neg (by decide), E_in (a := 0) (b := 1) rfl rfl, Option.bind_some, if_pos p3, if_neg (by decide)]
      refine y_gI X1.1 (k := 22) rfl (fun v6 e6 h6 => ?_)
      have hv : v6.toInt64.toInt = v6.toInt := Int32.toInt_toInt64 v6
      refine y_pL (S := 2 ^ 53) X1.1 (fun _ => by omega) (fun M7 H7 f7 o7 q7 => ?_)
      have X7 := e_V_fr X1 H7 f7 (by decide)
      have J7 := e_I_m J f7 (by decide)
      refine x_eq (e_gC H7) (Ok_b (E_q_keeps X7 J7) (fun M9 z => ?_))
      exact E_drawn_L65 V Q.1 x0 hjj (by omega) hN (by omega) g_fuel 0 (l6 := 0) ⟨z.1, by rw [z.2, q7, hv, ← e6, f2]; rfl⟩ rfl (Nat.zero_le _) (n_fu (by omega))
  · refine lw9_qn (w := -1) ?_ (fun M1 X1 => ?_)
    · delta F_X11_drawn F_X11_drawn_b0 F_X11_drawn_b41
      by_cases c1 : l1 < 1
      · rw [if_pos c1]
      rw [if_neg c1]
      by_cases c2 : (10 : Int32) < l1
      · rw [if_pos c2]
      rw [if_neg c2]
      by_cases c3 : l2 < 1
      · rw [if_pos c3]
      rw [if_neg c3]
      by_cases c4 : (60 : Int32) < l2
      · rw [if_pos c4]
      rw [if_neg c4]
      by_cases c5 : l3 < 0
      · rw [if_pos c5]
      rw [if_neg c5]
      by_cases c6 : (1 : Int32) < l3
      · rw [if_pos c6]
      rw [if_neg c6]
      have := i_nlt c1
      have := i_nlt c2
      have := i_nlt c3
      have := i_nlt c4
      have := i_nlt c5
      have := i_nlt c6
      rw [if_neg (by omega)] at t5
      rw [t_gR k2 C.1.1.1, Option.bind_some, t_gI ke, Option.bind_some, t5, if_pos rfl]
    · delta F_X12_drawn F_X12_drawn_b0 F_X12_drawn_b41
      rw [e_gO X1.1, Option.bind_some, E_isHouseX X1, Option.bind_some]
      by_cases kH : 0 < (σ 0).toInt
      · rw [if_pos kH, if_neg (by decide), E_in (a := 1) (b := 10) rfl rfl, Option.bind_some]
        by_cases p1 : 1 ≤ l1.toInt ∧ l1.toInt ≤ 10
        · rw [if_pos p1, if_neg (by decide), E_in (a := 1) (b := 60) rfl rfl, Option.bind_some]
          by_cases p2 : 1 ≤ l2.toInt ∧ l2.toInt ≤ 60
          · rw [if_pos p2, if_neg (by decide), E_in (a := 0) (b := 1) rfl rfl, Option.bind_some]
            have p3 : ¬ (0 ≤ l3.toInt ∧ l3.toInt ≤ 1) := fun z => good ⟨⟨p1, p2, z⟩, kH⟩
            rw [if_neg p3, if_pos rfl]
          · rw [if_neg p2, if_pos rfl]
        · rw [if_neg p1, if_pos rfl]
      · rw [if_neg kH, if_pos rfl]
-- 7zar.frames
/-! the class's own questions parts, ways: what they leave -/
def uC_R (M M' : gM) : Prop := (M'.1 = M.1 ∧ M'.2.2.2 = M.2.2.2) ∧ ∀ i, ¬ q_N i → M'.2.1 i = M.2.1 i
def uC_P (M : gM) (o : Option gM) : Prop := k_G M → ∀ r, o = some r → uC_R M r
def uC_Q {β : Type} (M : gM) (o : Option (β × gM)) : Prop := k_G M → ∀ r, o = some r → uC_R M r.2
theorem uC_r {M : gM} : uC_R M M := ⟨⟨rfl, rfl⟩, fun _ _ => rfl⟩
theorem uC_t {M M1 M2 : gM} (a : uC_R M M1) (b : uC_R M1 M2) : uC_R M M2 := ⟨⟨b.1.1.trans a.1.1, b.1.2.trans a.1.2⟩, fun i h => (b.2 i h).trans (a.2 i h)⟩
theorem uC_g {M M' : gM} (G : k_G M) (a : uC_R M M') : k_G M' := k_G_eq G a.1.1 a.1.2
theorem uCP_none {M : gM} : uC_P M none := fun _ r h => by cases h
theorem uCQ_none {β : Type} {M : gM} : uC_Q M (none : Option (β × gM)) := fun _ r h => by cases h
theorem uCP_some {M : gM} : uC_P M (some M) := fun _ r h => by obtain rfl := Option.some.inj h; exact uC_r
theorem uCQ_some {β : Type} {v : β} {M : gM} : uC_Q M (some (v, M)) := fun _ r h => by obtain rfl := Option.some.inj h; exact uC_r
theorem uCP_ite {c : Prop} [Decidable c] {M : gM} {a b : Option gM} (h1 : uC_P M a) (h2 : uC_P M b) : uC_P M (if c then a else b) := by split <;> assumption
theorem uCQ_ite {β : Type} {c : Prop} [Decidable c] {M : gM} {a b : Option (β × gM)} (h1 : uC_Q M a) (h2 : uC_Q M b) : uC_Q M (if c then a else b) := by split <;> assumption
theorem uCP_bind {α : Type} {M : gM} {o : Option α} {f : α → Option gM} (h : ∀ a, uC_P M (f a)) : uC_P M (o.bind f) := by
  cases o with
  | none => exact uCP_none
  | some a => exact h a
theorem uCQ_bind {α β : Type} {M : gM} {o : Option α} {f : α → Option (β × gM)} (h : ∀ a, uC_Q M (f a)) : uC_Q M (o.bind f) := by
  cases o with
  | none => exact uCQ_none
  | some a => exact h a
theorem uCP_bM {M : gM} {o : Option gM} {f : gM → Option gM} (h1 : uC_P M o) (h2 : ∀ M', uC_P M' (f M')) : uC_P M (o.bind f) := fun k r e => by
  cases o with
  | none => cases e
  | some M1 =>
    have a := h1 k M1 rfl
    exact uC_t a (h2 M1 (uC_g k a) r e)
theorem uCQ_bM {β : Type} {M : gM} {o : Option gM} {f : gM → Option (β × gM)} (h1 : uC_P M o) (h2 : ∀ M', uC_Q M' (f M')) : uC_Q M (o.bind f) := fun k r e => by
  cases o with
  | none => cases e
  | some M1 =>
    have a := h1 k M1 rfl
    exact uC_t a (h2 M1 (uC_g k a) r e)
theorem uCP_bQ {α : Type} {M : gM} {o : Option (α × gM)} {f : α × gM → Option gM} (h1 : uC_Q M o) (h2 : ∀ a M', uC_P M' (f (a, M'))) : uC_P M (o.bind f) := fun k r e => by
  cases o with
  | none => cases e
  | some q =>
    obtain ⟨v, M1⟩ := q
    have a := h1 k (v, M1) rfl
    exact uC_t a (h2 v M1 (uC_g k a) r e)
theorem uCQ_bQ {α β : Type} {M : gM} {o : Option (α × gM)} {f : α × gM → Option (β × gM)} (h1 : uC_Q M o) (h2 : ∀ a M', uC_Q M' (f (a, M'))) : uC_Q M (o.bind f) := fun k r e => by
  cases o with
  | none => cases e
  | some q =>
    obtain ⟨v, M1⟩ := q
    have a := h1 k (v, M1) rfl
    exact uC_t a (h2 v M1 (uC_g k a) r e)
theorem uC_gO {α : Type} {c i : Nat} {M : gM} {f : Nat → Option α} {P : Option α → Prop} (h0 : P none) (h : P (f i)) : P ((gO c M (some i)).bind f) := by
  unfold gO
  rw [Option.bind_some]
  split
  · exact h
  · exact h0
theorem uCP_gO {c i : Nat} {M : gM} {f : Nat → Option gM} (h : uC_P M (f i)) : uC_P M ((gO c M (some i)).bind f) := uC_gO uCP_none h
theorem uCQ_gO {β : Type} {c i : Nat} {M : gM} {f : Nat → Option (β × gM)} (h : uC_Q M (f i)) : uC_Q M ((gO c M (some i)).bind f) := uC_gO uCQ_none h
theorem uCP_r9 {M : gM} {f : Option Nat → Option gM} (h : uC_P M (f (some 122))) : uC_P M ((gR 11 M (some 2) 9).bind f) := fun G => by
  rw [t_gR (G_k2 G) (G_r9 G), Option.bind_some]
  exact h G
theorem uCQ_r9 {β : Type} {M : gM} {f : Option Nat → Option (β × gM)} (h : uC_Q M (f (some 122))) : uC_Q M ((gR 11 M (some 2) 9).bind f) := fun G => by
  rw [t_gR (G_k2 G) (G_r9 G), Option.bind_some]
  exact h G
theorem uCP_r10 {M : gM} {f : Option Nat → Option gM} (h : uC_P M (f (some 123))) : uC_P M ((gR 11 M (some 2) 10).bind f) := fun G => by
  rw [t_gR (G_k2 G) (G_r10 G), Option.bind_some]
  exact h G
theorem uCQ_r10 {β : Type} {M : gM} {f : Option Nat → Option (β × gM)} (h : uC_Q M (f (some 123))) : uC_Q M ((gR 11 M (some 2) 10).bind f) := fun G => by
  rw [t_gR (G_k2 G) (G_r10 G), Option.bind_some]
  exact h G
theorem G_k123 {M : gM} (G : k_G M) : g_k M 123 = (0, 0) := k_kd G (by decide)
theorem uCP_r0 {M : gM} {f : Option Nat → Option gM} (h : uC_P M (f (some 124))) : uC_P M ((gR 0 M (some 123) 0).bind f) := fun G => by
  rw [t_gR (G_k123 G) (G_r123 G), Option.bind_some]
  exact h G
theorem uCQ_r0 {β : Type} {M : gM} {f : Option Nat → Option (β × gM)} (h : uC_Q M (f (some 124))) : uC_Q M ((gR 0 M (some 123) 0).bind f) := fun G => by
  rw [t_gR (G_k123 G) (G_r123 G), Option.bind_some]
  exact h G
theorem uCP_sI {M : gM} {j v : Int32} : uC_P M (sI M (some 122) j v) := fun k r e => by
  unfold sI at e
  rw [Option.bind_some] at e
  split at e
  · obtain rfl := Option.some.inj e
    exact ⟨⟨rfl, rfl⟩, fun i h => funext (fun k => mI_ne (Or.inl (fun z => h (by rw [z]; unfold q_N; omega))))⟩
  · cases e
theorem uCP_pI {c : Nat} {M : gM} {j : Nat} {v : Int32} : uC_P M (pI c M (some 123) j v) := fun k r e => by
  unfold pI at e
  rw [Option.bind_some] at e
  split at e
  · obtain rfl := Option.some.inj e
    exact ⟨⟨rfl, rfl⟩, fun i h => funext (fun k => mI_ne (Or.inl (fun z => h (by rw [z]; unfold q_N; omega))))⟩
  · cases e
theorem uCP_sL {M : gM} {o : Option Nat} {j : Int32} {v : Int64} : uC_P M (sL M o j v) := fun k r e => by
  cases o with
  | none => cases e
  | some i =>
    unfold sL at e
    rw [Option.bind_some] at e
    split at e
    · obtain rfl := Option.some.inj e
      exact ⟨⟨rfl, rfl⟩, fun _ _ => rfl⟩
    · cases e
theorem UC_X11_fillUnlike_b83 {k4 : Option Nat → Int32 → Int32 → Int32 → gM → Option (Int32 × gM)} {k20 : Option Nat → Int32 → Int32 → Int32 → Int32 → gM → Option (Int32 × gM)} (hk4 : ∀ (a1 : Int32) (a2 : Int32) (a3 : Int32) (M : gM), uC_Q M (k4 (some 2) a1 a2 a3 M)) (hk20 : ∀ (a1 : Int32) (a2 : Int32) (a3 : Int32) (a4 : Int32) (M : gM), uC_Q M (k20 (some 2) a1 a2 a3 a4 M)) (l1 : Int32) (l2 : Int32) (l3 : Int32) (l4 : Int32) (M : gM) : uC_Q M (F_X11_fillUnlike_b83 k4 k20 (some 2) l1 l2 l3 l4 M) := by
  delta F_X11_fillUnlike_b83
  with_reducible repeat' (first | exact hk4 _ _ _ _ | exact hk20 _ _ _ _ _ | refine uCP_gO ?_ | refine uCQ_gO ?_ | refine uCP_r9 ?_ | refine uCQ_r9 ?_ | refine uCP_r10 ?_ | refine uCQ_r10 ?_ | refine uCP_r0 ?_ | refine uCQ_r0 ?_ | exact uCP_none | exact uCQ_none | exact uCP_some | exact uCQ_some | exact uCP_sI | exact uCP_pI | exact uCP_sL | refine uCP_ite ?_ ?_ | refine uCQ_ite ?_ ?_ | refine uCP_bM ?_ (fun _ => ?_) | refine uCQ_bM ?_ (fun _ => ?_) | refine uCP_bQ ?_ (fun _ _ => ?_) | refine uCQ_bQ ?_ (fun _ _ => ?_) | refine uCP_bind (fun _ => ?_) | refine uCQ_bind (fun _ => ?_) | dsimp only)
theorem UC_X11_fillUnlike_b20 {k4 : Option Nat → Int32 → Int32 → Int32 → gM → Option (Int32 × gM)} {k20 : Option Nat → Int32 → Int32 → Int32 → Int32 → gM → Option (Int32 × gM)} (hk4 : ∀ (a1 : Int32) (a2 : Int32) (a3 : Int32) (M : gM), uC_Q M (k4 (some 2) a1 a2 a3 M)) (hk20 : ∀ (a1 : Int32) (a2 : Int32) (a3 : Int32) (a4 : Int32) (M : gM), uC_Q M (k20 (some 2) a1 a2 a3 a4 M)) (l1 : Int32) (l2 : Int32) (l3 : Int32) (l4 : Int32) (M : gM) : uC_Q M (F_X11_fillUnlike_b20 k4 k20 (some 2) l1 l2 l3 l4 M) := by
  delta F_X11_fillUnlike_b20
  with_reducible repeat' (first | exact hk4 _ _ _ _ | exact hk20 _ _ _ _ _ | exact UC_X11_fillUnlike_b83 (by assumption) (by assumption) _ _ _ _ _ | refine uCP_gO ?_ | refine uCQ_gO ?_ | refine uCP_r9 ?_ | refine uCQ_r9 ?_ | refine uCP_r10 ?_ | refine uCQ_r10 ?_ | refine uCP_r0 ?_ | refine uCQ_r0 ?_ | exact uCP_none | exact uCQ_none | exact uCP_some | exact uCQ_some | exact uCP_sI | exact uCP_pI | exact uCP_sL | refine uCP_ite ?_ ?_ | refine uCQ_ite ?_ ?_ | refine uCP_bM ?_ (fun _ => ?_) | refine uCQ_bM ?_ (fun _ => ?_) | refine uCP_bQ ?_ (fun _ _ => ?_) | refine uCQ_bQ ?_ (fun _ _ => ?_) | refine uCP_bind (fun _ => ?_) | refine uCQ_bind (fun _ => ?_) | dsimp only)
theorem UC_X11_fillUnlike_L20 {k4 : Option Nat → Int32 → Int32 → Int32 → gM → Option (Int32 × gM)} (hk4 : ∀ (a1 : Int32) (a2 : Int32) (a3 : Int32) (M : gM), uC_Q M (k4 (some 2) a1 a2 a3 M))  : ∀ (n : Nat) (a1 : Int32) (a2 : Int32) (a3 : Int32) (a4 : Int32) (M : gM), uC_Q M (F_X11_fillUnlike_L20 k4  n (some 2) a1 a2 a3 a4 M) := by
  intro n
  induction n with
  | zero => intro a1 a2 a3 a4 M; exact uCQ_none
  | succ n ih => intro a1 a2 a3 a4 M; exact UC_X11_fillUnlike_b20 hk4 ih _ _ _ _ _
theorem UC_X11_fillUnlike_b4 {k4 : Option Nat → Int32 → Int32 → Int32 → gM → Option (Int32 × gM)} (hk4 : ∀ (a1 : Int32) (a2 : Int32) (a3 : Int32) (M : gM), uC_Q M (k4 (some 2) a1 a2 a3 M)) (l1 : Int32) (l2 : Int32) (l3 : Int32) (M : gM) : uC_Q M (F_X11_fillUnlike_b4 k4 (some 2) l1 l2 l3 M) := by
  delta F_X11_fillUnlike_b4
  with_reducible repeat' (first | exact hk4 _ _ _ _ | exact UC_X11_fillUnlike_L20 (by assumption) _ _ _ _ _ _ | refine uCP_gO ?_ | refine uCQ_gO ?_ | refine uCP_r9 ?_ | refine uCQ_r9 ?_ | refine uCP_r10 ?_ | refine uCQ_r10 ?_ | refine uCP_r0 ?_ | refine uCQ_r0 ?_ | exact uCP_none | exact uCQ_none | exact uCP_some | exact uCQ_some | exact uCP_sI | exact uCP_pI | exact uCP_sL | refine uCP_ite ?_ ?_ | refine uCQ_ite ?_ ?_ | refine uCP_bM ?_ (fun _ => ?_) | refine uCQ_bM ?_ (fun _ => ?_) | refine uCP_bQ ?_ (fun _ _ => ?_) | refine uCQ_bQ ?_ (fun _ _ => ?_) | refine uCP_bind (fun _ => ?_) | refine uCQ_bind (fun _ => ?_) | dsimp only)
theorem UC_X11_fillUnlike_L4  : ∀ (n : Nat) (a1 : Int32) (a2 : Int32) (a3 : Int32) (M : gM), uC_Q M (F_X11_fillUnlike_L4   n (some 2) a1 a2 a3 M) := by
  intro n
  induction n with
  | zero => intro a1 a2 a3 M; exact uCQ_none
  | succ n ih => intro a1 a2 a3 M; exact UC_X11_fillUnlike_b4 ih _ _ _ _
theorem UC_X11_fillUnlike_b0 (l1 : Int32) (M : gM) : uC_Q M (F_X11_fillUnlike_b0 (some 2) l1 M) := by
  delta F_X11_fillUnlike_b0
  with_reducible repeat' (first | exact UC_X11_fillUnlike_L4  _ _ _ _ _ | refine uCP_gO ?_ | refine uCQ_gO ?_ | refine uCP_r9 ?_ | refine uCQ_r9 ?_ | refine uCP_r10 ?_ | refine uCQ_r10 ?_ | refine uCP_r0 ?_ | refine uCQ_r0 ?_ | exact uCP_none | exact uCQ_none | exact uCP_some | exact uCQ_some | exact uCP_sI | exact uCP_pI | exact uCP_sL | refine uCP_ite ?_ ?_ | refine uCQ_ite ?_ ?_ | refine uCP_bM ?_ (fun _ => ?_) | refine uCQ_bM ?_ (fun _ => ?_) | refine uCP_bQ ?_ (fun _ _ => ?_) | refine uCQ_bQ ?_ (fun _ _ => ?_) | refine uCP_bind (fun _ => ?_) | refine uCQ_bind (fun _ => ?_) | dsimp only)
theorem UC_X11_fillUnlike (l1 : Int32) (M : gM) : uC_Q M (F_X11_fillUnlike (some 2) l1 M) := by
  delta F_X11_fillUnlike
  with_reducible repeat' (first | exact UC_X11_fillUnlike_b0  _ _ | refine uCP_gO ?_ | refine uCQ_gO ?_ | refine uCP_r9 ?_ | refine uCQ_r9 ?_ | refine uCP_r10 ?_ | refine uCQ_r10 ?_ | refine uCP_r0 ?_ | refine uCQ_r0 ?_ | exact uCP_none | exact uCQ_none | exact uCP_some | exact uCQ_some | exact uCP_sI | exact uCP_pI | exact uCP_sL | refine uCP_ite ?_ ?_ | refine uCQ_ite ?_ ?_ | refine uCP_bM ?_ (fun _ => ?_) | refine uCQ_bM ?_ (fun _ => ?_) | refine uCP_bQ ?_ (fun _ _ => ?_) | refine uCQ_bQ ?_ (fun _ _ => ?_) | refine uCP_bind (fun _ => ?_) | refine uCQ_bind (fun _ => ?_) | dsimp only)
theorem UC_X11_parts_b26 (M : gM) : uC_Q M (F_X11_parts_b26 M) := by
  delta F_X11_parts_b26
  with_reducible repeat' (first | refine uCP_gO ?_ | refine uCQ_gO ?_ | refine uCP_r9 ?_ | refine uCQ_r9 ?_ | refine uCP_r10 ?_ | refine uCQ_r10 ?_ | refine uCP_r0 ?_ | refine uCQ_r0 ?_ | exact uCP_none | exact uCQ_none | exact uCP_some | exact uCQ_some | exact uCP_sI | exact uCP_pI | exact uCP_sL | refine uCP_ite ?_ ?_ | refine uCQ_ite ?_ ?_ | refine uCP_bM ?_ (fun _ => ?_) | refine uCQ_bM ?_ (fun _ => ?_) | refine uCP_bQ ?_ (fun _ _ => ?_) | refine uCQ_bQ ?_ (fun _ _ => ?_) | refine uCP_bind (fun _ => ?_) | refine uCQ_bind (fun _ => ?_) | dsimp only)
theorem UC_X11_parts_b99 {k40 : Option Nat → Int32 → Int32 → Int32 → Int32 → gM → Option (Int32 × gM)} (hk40 : ∀ (a1 : Int32) (a2 : Int32) (a3 : Int32) (a4 : Int32) (M : gM), uC_Q M (k40 (some 2) a1 a2 a3 a4 M)) (l2 : Int32) (l3 : Int32) (l4 : Int32) (l5 : Int32) (M : gM) : uC_Q M (F_X11_parts_b99 k40 (some 2) l2 l3 l4 l5 M) := by
  delta F_X11_parts_b99
  with_reducible repeat' (first | exact hk40 _ _ _ _ _ | refine uCP_gO ?_ | refine uCQ_gO ?_ | refine uCP_r9 ?_ | refine uCQ_r9 ?_ | refine uCP_r10 ?_ | refine uCQ_r10 ?_ | refine uCP_r0 ?_ | refine uCQ_r0 ?_ | exact uCP_none | exact uCQ_none | exact uCP_some | exact uCQ_some | exact uCP_sI | exact uCP_pI | exact uCP_sL | refine uCP_ite ?_ ?_ | refine uCQ_ite ?_ ?_ | refine uCP_bM ?_ (fun _ => ?_) | refine uCQ_bM ?_ (fun _ => ?_) | refine uCP_bQ ?_ (fun _ _ => ?_) | refine uCQ_bQ ?_ (fun _ _ => ?_) | refine uCP_bind (fun _ => ?_) | refine uCQ_bind (fun _ => ?_) | dsimp only)
theorem UC_X11_parts_b78 {k40 : Option Nat → Int32 → Int32 → Int32 → Int32 → gM → Option (Int32 × gM)} (hk40 : ∀ (a1 : Int32) (a2 : Int32) (a3 : Int32) (a4 : Int32) (M : gM), uC_Q M (k40 (some 2) a1 a2 a3 a4 M)) (l2 : Int32) (l3 : Int32) (l4 : Int32) (l5 : Int32) (s0 : Int32) (M : gM) : uC_Q M (F_X11_parts_b78 k40 (some 2) l2 l3 l4 l5 s0 M) := by
  delta F_X11_parts_b78
  with_reducible repeat' (first | exact hk40 _ _ _ _ _ | exact UC_X11_parts_b99 (by assumption) _ _ _ _ _ | refine uCP_gO ?_ | refine uCQ_gO ?_ | refine uCP_r9 ?_ | refine uCQ_r9 ?_ | refine uCP_r10 ?_ | refine uCQ_r10 ?_ | refine uCP_r0 ?_ | refine uCQ_r0 ?_ | exact uCP_none | exact uCQ_none | exact uCP_some | exact uCQ_some | exact uCP_sI | exact uCP_pI | exact uCP_sL | refine uCP_ite ?_ ?_ | refine uCQ_ite ?_ ?_ | refine uCP_bM ?_ (fun _ => ?_) | refine uCQ_bM ?_ (fun _ => ?_) | refine uCP_bQ ?_ (fun _ _ => ?_) | refine uCQ_bQ ?_ (fun _ _ => ?_) | refine uCP_bind (fun _ => ?_) | refine uCQ_bind (fun _ => ?_) | dsimp only)
theorem UC_X11_parts_b73 {k40 : Option Nat → Int32 → Int32 → Int32 → Int32 → gM → Option (Int32 × gM)} (hk40 : ∀ (a1 : Int32) (a2 : Int32) (a3 : Int32) (a4 : Int32) (M : gM), uC_Q M (k40 (some 2) a1 a2 a3 a4 M)) (l2 : Int32) (l3 : Int32) (l4 : Int32) (l5 : Int32) (M : gM) : uC_Q M (F_X11_parts_b73 k40 (some 2) l2 l3 l4 l5 M) := by
  delta F_X11_parts_b73
  with_reducible repeat' (first | exact hk40 _ _ _ _ _ | exact UC_X11_parts_b78 (by assumption) _ _ _ _ _ _ | refine uCP_gO ?_ | refine uCQ_gO ?_ | refine uCP_r9 ?_ | refine uCQ_r9 ?_ | refine uCP_r10 ?_ | refine uCQ_r10 ?_ | refine uCP_r0 ?_ | refine uCQ_r0 ?_ | exact uCP_none | exact uCQ_none | exact uCP_some | exact uCQ_some | exact uCP_sI | exact uCP_pI | exact uCP_sL | refine uCP_ite ?_ ?_ | refine uCQ_ite ?_ ?_ | refine uCP_bM ?_ (fun _ => ?_) | refine uCQ_bM ?_ (fun _ => ?_) | refine uCP_bQ ?_ (fun _ _ => ?_) | refine uCQ_bQ ?_ (fun _ _ => ?_) | refine uCP_bind (fun _ => ?_) | refine uCQ_bind (fun _ => ?_) | dsimp only)
theorem UC_X11_parts_b40 {k40 : Option Nat → Int32 → Int32 → Int32 → Int32 → gM → Option (Int32 × gM)} (hk40 : ∀ (a1 : Int32) (a2 : Int32) (a3 : Int32) (a4 : Int32) (M : gM), uC_Q M (k40 (some 2) a1 a2 a3 a4 M)) (l2 : Int32) (l3 : Int32) (l4 : Int32) (l5 : Int32) (M : gM) : uC_Q M (F_X11_parts_b40 k40 (some 2) l2 l3 l4 l5 M) := by
  delta F_X11_parts_b40
  with_reducible repeat' (first | exact hk40 _ _ _ _ _ | exact UC_X11_parts_b73 (by assumption) _ _ _ _ _ | exact UC_X11_parts_b78 (by assumption) _ _ _ _ _ _ | refine uCP_gO ?_ | refine uCQ_gO ?_ | refine uCP_r9 ?_ | refine uCQ_r9 ?_ | refine uCP_r10 ?_ | refine uCQ_r10 ?_ | refine uCP_r0 ?_ | refine uCQ_r0 ?_ | exact uCP_none | exact uCQ_none | exact uCP_some | exact uCQ_some | exact uCP_sI | exact uCP_pI | exact uCP_sL | refine uCP_ite ?_ ?_ | refine uCQ_ite ?_ ?_ | refine uCP_bM ?_ (fun _ => ?_) | refine uCQ_bM ?_ (fun _ => ?_) | refine uCP_bQ ?_ (fun _ _ => ?_) | refine uCQ_bQ ?_ (fun _ _ => ?_) | refine uCP_bind (fun _ => ?_) | refine uCQ_bind (fun _ => ?_) | dsimp only)
theorem UC_X11_parts_L40  : ∀ (n : Nat) (a1 : Int32) (a2 : Int32) (a3 : Int32) (a4 : Int32) (M : gM), uC_Q M (F_X11_parts_L40   n (some 2) a1 a2 a3 a4 M) := by
  intro n
  induction n with
  | zero => intro a1 a2 a3 a4 M; exact uCQ_none
  | succ n ih => intro a1 a2 a3 a4 M; exact UC_X11_parts_b40 ih _ _ _ _ _
theorem UC_X11_parts_b0 (l1 : Int32) (l2 : Int32) (M : gM) : uC_Q M (F_X11_parts_b0 (some 2) l1 l2 M) := by
  delta F_X11_parts_b0
  with_reducible repeat' (first | exact UC_X11_parts_b26  _ | exact UC_X11_fillUnlike  _ _ | exact UC_X11_parts_L40  _ _ _ _ _ _ | refine uCP_gO ?_ | refine uCQ_gO ?_ | refine uCP_r9 ?_ | refine uCQ_r9 ?_ | refine uCP_r10 ?_ | refine uCQ_r10 ?_ | refine uCP_r0 ?_ | refine uCQ_r0 ?_ | exact uCP_none | exact uCQ_none | exact uCP_some | exact uCQ_some | exact uCP_sI | exact uCP_pI | exact uCP_sL | refine uCP_ite ?_ ?_ | refine uCQ_ite ?_ ?_ | refine uCP_bM ?_ (fun _ => ?_) | refine uCQ_bM ?_ (fun _ => ?_) | refine uCP_bQ ?_ (fun _ _ => ?_) | refine uCQ_bQ ?_ (fun _ _ => ?_) | refine uCP_bind (fun _ => ?_) | refine uCQ_bind (fun _ => ?_) | dsimp only)
theorem UC_X11_parts (l1 : Int32) (l2 : Int32) (M : gM) : uC_Q M (F_X11_parts (some 2) l1 l2 M) := by
  delta F_X11_parts
  with_reducible repeat' (first | exact UC_X11_parts_b0  _ _ _ | refine uCP_gO ?_ | refine uCQ_gO ?_ | refine uCP_r9 ?_ | refine uCQ_r9 ?_ | refine uCP_r10 ?_ | refine uCQ_r10 ?_ | refine uCP_r0 ?_ | refine uCQ_r0 ?_ | exact uCP_none | exact uCQ_none | exact uCP_some | exact uCQ_some | exact uCP_sI | exact uCP_pI | exact uCP_sL | refine uCP_ite ?_ ?_ | refine uCQ_ite ?_ ?_ | refine uCP_bM ?_ (fun _ => ?_) | refine uCQ_bM ?_ (fun _ => ?_) | refine uCP_bQ ?_ (fun _ _ => ?_) | refine uCQ_bQ ?_ (fun _ _ => ?_) | refine uCP_bind (fun _ => ?_) | refine uCQ_bind (fun _ => ?_) | dsimp only)
theorem UC_X0_clear_b39 {k12 : Option Nat → Int32 → gM → Option gM} (hk12 : ∀ (a1 : Int32) (M : gM), uC_P M (k12 (some 123) a1 M)) (l2 : Int32) (s1 : Int32) (s2 : Int64) (M : gM) : uC_P M (F_X0_clear_b39 k12 (some 123) l2 (some 124) s1 s2 M) := by
  delta F_X0_clear_b39
  with_reducible repeat' (first | exact hk12 _ _ | refine uCP_gO ?_ | refine uCQ_gO ?_ | refine uCP_r9 ?_ | refine uCQ_r9 ?_ | refine uCP_r10 ?_ | refine uCQ_r10 ?_ | refine uCP_r0 ?_ | refine uCQ_r0 ?_ | exact uCP_none | exact uCQ_none | exact uCP_some | exact uCQ_some | exact uCP_sI | exact uCP_pI | exact uCP_sL | refine uCP_ite ?_ ?_ | refine uCQ_ite ?_ ?_ | refine uCP_bM ?_ (fun _ => ?_) | refine uCQ_bM ?_ (fun _ => ?_) | refine uCP_bQ ?_ (fun _ _ => ?_) | refine uCQ_bQ ?_ (fun _ _ => ?_) | refine uCP_bind (fun _ => ?_) | refine uCQ_bind (fun _ => ?_) | dsimp only)
theorem UC_X0_clear_b12 {k12 : Option Nat → Int32 → gM → Option gM} (hk12 : ∀ (a1 : Int32) (M : gM), uC_P M (k12 (some 123) a1 M)) (l2 : Int32) (M : gM) : uC_P M (F_X0_clear_b12 k12 (some 123) l2 M) := by
  delta F_X0_clear_b12
  with_reducible repeat' (first | exact hk12 _ _ | exact UC_X0_clear_b39 (by assumption) _ _ _ _ | refine uCP_gO ?_ | refine uCQ_gO ?_ | refine uCP_r9 ?_ | refine uCQ_r9 ?_ | refine uCP_r10 ?_ | refine uCQ_r10 ?_ | refine uCP_r0 ?_ | refine uCQ_r0 ?_ | exact uCP_none | exact uCQ_none | exact uCP_some | exact uCQ_some | exact uCP_sI | exact uCP_pI | exact uCP_sL | refine uCP_ite ?_ ?_ | refine uCQ_ite ?_ ?_ | refine uCP_bM ?_ (fun _ => ?_) | refine uCQ_bM ?_ (fun _ => ?_) | refine uCP_bQ ?_ (fun _ _ => ?_) | refine uCQ_bQ ?_ (fun _ _ => ?_) | refine uCP_bind (fun _ => ?_) | refine uCQ_bind (fun _ => ?_) | dsimp only)
theorem UC_X0_clear_L12  : ∀ (n : Nat) (a1 : Int32) (M : gM), uC_P M (F_X0_clear_L12   n (some 123) a1 M) := by
  intro n
  induction n with
  | zero => intro a1 M; exact uCP_none
  | succ n ih => intro a1 M; exact UC_X0_clear_b12 ih _ _
theorem UC_X0_clear_b0 (l1 : Int32) (M : gM) : uC_P M (F_X0_clear_b0 (some 123) l1 M) := by
  delta F_X0_clear_b0
  with_reducible repeat' (first | exact UC_X0_clear_L12  _ _ _ | refine uCP_gO ?_ | refine uCQ_gO ?_ | refine uCP_r9 ?_ | refine uCQ_r9 ?_ | refine uCP_r10 ?_ | refine uCQ_r10 ?_ | refine uCP_r0 ?_ | refine uCQ_r0 ?_ | exact uCP_none | exact uCQ_none | exact uCP_some | exact uCQ_some | exact uCP_sI | exact uCP_pI | exact uCP_sL | refine uCP_ite ?_ ?_ | refine uCQ_ite ?_ ?_ | refine uCP_bM ?_ (fun _ => ?_) | refine uCQ_bM ?_ (fun _ => ?_) | refine uCP_bQ ?_ (fun _ _ => ?_) | refine uCQ_bQ ?_ (fun _ _ => ?_) | refine uCP_bind (fun _ => ?_) | refine uCQ_bind (fun _ => ?_) | dsimp only)
theorem UC_X0_clear (l1 : Int32) (M : gM) : uC_P M (F_X0_clear (some 123) l1 M) := by
  delta F_X0_clear
  with_reducible repeat' (first | exact UC_X0_clear_b0  _ _ | refine uCP_gO ?_ | refine uCQ_gO ?_ | refine uCP_r9 ?_ | refine uCQ_r9 ?_ | refine uCP_r10 ?_ | refine uCQ_r10 ?_ | refine uCP_r0 ?_ | refine uCQ_r0 ?_ | exact uCP_none | exact uCQ_none | exact uCP_some | exact uCQ_some | exact uCP_sI | exact uCP_pI | exact uCP_sL | refine uCP_ite ?_ ?_ | refine uCQ_ite ?_ ?_ | refine uCP_bM ?_ (fun _ => ?_) | refine uCQ_bM ?_ (fun _ => ?_) | refine uCP_bQ ?_ (fun _ _ => ?_) | refine uCQ_bQ ?_ (fun _ _ => ?_) | refine uCP_bind (fun _ => ?_) | refine uCQ_bind (fun _ => ?_) | dsimp only)
theorem UC_X0_join_b0 (l1 : Int32) (l2 : Int32) (M : gM) : uC_P M (F_X0_join_b0 (some 123) l1 l2 M) := by
  delta F_X0_join_b0
  with_reducible repeat' (first | refine uCP_gO ?_ | refine uCQ_gO ?_ | refine uCP_r9 ?_ | refine uCQ_r9 ?_ | refine uCP_r10 ?_ | refine uCQ_r10 ?_ | refine uCP_r0 ?_ | refine uCQ_r0 ?_ | exact uCP_none | exact uCQ_none | exact uCP_some | exact uCQ_some | exact uCP_sI | exact uCP_pI | exact uCP_sL | refine uCP_ite ?_ ?_ | refine uCQ_ite ?_ ?_ | refine uCP_bM ?_ (fun _ => ?_) | refine uCQ_bM ?_ (fun _ => ?_) | refine uCP_bQ ?_ (fun _ _ => ?_) | refine uCQ_bQ ?_ (fun _ _ => ?_) | refine uCP_bind (fun _ => ?_) | refine uCQ_bind (fun _ => ?_) | dsimp only)
theorem UC_X0_join (l1 : Int32) (l2 : Int32) (M : gM) : uC_P M (F_X0_join (some 123) l1 l2 M) := by
  delta F_X0_join
  with_reducible repeat' (first | exact UC_X0_join_b0  _ _ _ | refine uCP_gO ?_ | refine uCQ_gO ?_ | refine uCP_r9 ?_ | refine uCQ_r9 ?_ | refine uCP_r10 ?_ | refine uCQ_r10 ?_ | refine uCP_r0 ?_ | refine uCQ_r0 ?_ | exact uCP_none | exact uCQ_none | exact uCP_some | exact uCQ_some | exact uCP_sI | exact uCP_pI | exact uCP_sL | refine uCP_ite ?_ ?_ | refine uCQ_ite ?_ ?_ | refine uCP_bM ?_ (fun _ => ?_) | refine uCQ_bM ?_ (fun _ => ?_) | refine uCP_bQ ?_ (fun _ _ => ?_) | refine uCQ_bQ ?_ (fun _ _ => ?_) | refine uCP_bind (fun _ => ?_) | refine uCQ_bind (fun _ => ?_) | dsimp only)
theorem UC_X0_howMany_b38 (M : gM) : uC_Q M (F_X0_howMany_b38 M) := by
  delta F_X0_howMany_b38
  with_reducible repeat' (first | refine uCP_gO ?_ | refine uCQ_gO ?_ | refine uCP_r9 ?_ | refine uCQ_r9 ?_ | refine uCP_r10 ?_ | refine uCQ_r10 ?_ | refine uCP_r0 ?_ | refine uCQ_r0 ?_ | exact uCP_none | exact uCQ_none | exact uCP_some | exact uCQ_some | exact uCP_sI | exact uCP_pI | exact uCP_sL | refine uCP_ite ?_ ?_ | refine uCQ_ite ?_ ?_ | refine uCP_bM ?_ (fun _ => ?_) | refine uCQ_bM ?_ (fun _ => ?_) | refine uCP_bQ ?_ (fun _ _ => ?_) | refine uCQ_bQ ?_ (fun _ _ => ?_) | refine uCP_bind (fun _ => ?_) | refine uCQ_bind (fun _ => ?_) | dsimp only)
theorem UC_X0_howMany_b59 {k4 : Option Nat → Int64 → Int32 → gM → Option (Int32 × gM)} {k45 : Option Nat → Int64 → Int32 → Int64 → Int32 → gM → Option (Int32 × gM)} {k59 : Option Nat → Int64 → Int32 → Int64 → Int32 → Int32 → gM → Option (Int32 × gM)} (hk4 : ∀ (a1 : Int64) (a2 : Int32) (M : gM), uC_Q M (k4 (some 123) a1 a2 M)) (hk45 : ∀ (a1 : Int64) (a2 : Int32) (a3 : Int64) (a4 : Int32) (M : gM), uC_Q M (k45 (some 123) a1 a2 a3 a4 M)) (hk59 : ∀ (a1 : Int64) (a2 : Int32) (a3 : Int64) (a4 : Int32) (a5 : Int32) (M : gM), uC_Q M (k59 (some 123) a1 a2 a3 a4 a5 M)) (l1 : Int64) (l3 : Int32) (l4 : Int64) (l6 : Int32) (l7 : Int32) (M : gM) : uC_Q M (F_X0_howMany_b59 k4 k45 k59 (some 123) l1 l3 l4 l6 l7 M) := by
  delta F_X0_howMany_b59
  with_reducible repeat' (first | exact hk4 _ _ _ | exact hk45 _ _ _ _ _ | exact hk59 _ _ _ _ _ _ | refine uCP_gO ?_ | refine uCQ_gO ?_ | refine uCP_r9 ?_ | refine uCQ_r9 ?_ | refine uCP_r10 ?_ | refine uCQ_r10 ?_ | refine uCP_r0 ?_ | refine uCQ_r0 ?_ | exact uCP_none | exact uCQ_none | exact uCP_some | exact uCQ_some | exact uCP_sI | exact uCP_pI | exact uCP_sL | refine uCP_ite ?_ ?_ | refine uCQ_ite ?_ ?_ | refine uCP_bM ?_ (fun _ => ?_) | refine uCQ_bM ?_ (fun _ => ?_) | refine uCP_bQ ?_ (fun _ _ => ?_) | refine uCQ_bQ ?_ (fun _ _ => ?_) | refine uCP_bind (fun _ => ?_) | refine uCQ_bind (fun _ => ?_) | dsimp only)
theorem UC_X0_howMany_L59 {k4 : Option Nat → Int64 → Int32 → gM → Option (Int32 × gM)} {k45 : Option Nat → Int64 → Int32 → Int64 → Int32 → gM → Option (Int32 × gM)} (hk4 : ∀ (a1 : Int64) (a2 : Int32) (M : gM), uC_Q M (k4 (some 123) a1 a2 M)) (hk45 : ∀ (a1 : Int64) (a2 : Int32) (a3 : Int64) (a4 : Int32) (M : gM), uC_Q M (k45 (some 123) a1 a2 a3 a4 M))  : ∀ (n : Nat) (a1 : Int64) (a2 : Int32) (a3 : Int64) (a4 : Int32) (a5 : Int32) (M : gM), uC_Q M (F_X0_howMany_L59 k4 k45  n (some 123) a1 a2 a3 a4 a5 M) := by
  intro n
  induction n with
  | zero => intro a1 a2 a3 a4 a5 M; exact uCQ_none
  | succ n ih => intro a1 a2 a3 a4 a5 M; exact UC_X0_howMany_b59 hk4 hk45 ih _ _ _ _ _ _
theorem UC_X0_howMany_b45 {k4 : Option Nat → Int64 → Int32 → gM → Option (Int32 × gM)} {k45 : Option Nat → Int64 → Int32 → Int64 → Int32 → gM → Option (Int32 × gM)} (hk4 : ∀ (a1 : Int64) (a2 : Int32) (M : gM), uC_Q M (k4 (some 123) a1 a2 M)) (hk45 : ∀ (a1 : Int64) (a2 : Int32) (a3 : Int64) (a4 : Int32) (M : gM), uC_Q M (k45 (some 123) a1 a2 a3 a4 M)) (l1 : Int64) (l3 : Int32) (l4 : Int64) (l6 : Int32) (M : gM) : uC_Q M (F_X0_howMany_b45 k4 k45 (some 123) l1 l3 l4 l6 M) := by
  delta F_X0_howMany_b45
  with_reducible repeat' (first | exact hk4 _ _ _ | exact hk45 _ _ _ _ _ | exact UC_X0_howMany_L59 (by assumption) (by assumption) _ _ _ _ _ _ _ | refine uCP_gO ?_ | refine uCQ_gO ?_ | refine uCP_r9 ?_ | refine uCQ_r9 ?_ | refine uCP_r10 ?_ | refine uCQ_r10 ?_ | refine uCP_r0 ?_ | refine uCQ_r0 ?_ | exact uCP_none | exact uCQ_none | exact uCP_some | exact uCQ_some | exact uCP_sI | exact uCP_pI | exact uCP_sL | refine uCP_ite ?_ ?_ | refine uCQ_ite ?_ ?_ | refine uCP_bM ?_ (fun _ => ?_) | refine uCQ_bM ?_ (fun _ => ?_) | refine uCP_bQ ?_ (fun _ _ => ?_) | refine uCQ_bQ ?_ (fun _ _ => ?_) | refine uCP_bind (fun _ => ?_) | refine uCQ_bind (fun _ => ?_) | dsimp only)
theorem UC_X0_howMany_L45 {k4 : Option Nat → Int64 → Int32 → gM → Option (Int32 × gM)} (hk4 : ∀ (a1 : Int64) (a2 : Int32) (M : gM), uC_Q M (k4 (some 123) a1 a2 M))  : ∀ (n : Nat) (a1 : Int64) (a2 : Int32) (a3 : Int64) (a4 : Int32) (M : gM), uC_Q M (F_X0_howMany_L45 k4  n (some 123) a1 a2 a3 a4 M) := by
  intro n
  induction n with
  | zero => intro a1 a2 a3 a4 M; exact uCQ_none
  | succ n ih => intro a1 a2 a3 a4 M; exact UC_X0_howMany_b45 hk4 ih _ _ _ _ _
theorem UC_X0_howMany_b4 {k4 : Option Nat → Int64 → Int32 → gM → Option (Int32 × gM)} (hk4 : ∀ (a1 : Int64) (a2 : Int32) (M : gM), uC_Q M (k4 (some 123) a1 a2 M)) (l1 : Int64) (l3 : Int32) (M : gM) : uC_Q M (F_X0_howMany_b4 k4 (some 123) l1 l3 M) := by
  delta F_X0_howMany_b4
  with_reducible repeat' (first | exact hk4 _ _ _ | exact UC_X0_howMany_b38  _ | exact UC_X0_howMany_L45 (by assumption) _ _ _ _ _ _ | refine uCP_gO ?_ | refine uCQ_gO ?_ | refine uCP_r9 ?_ | refine uCQ_r9 ?_ | refine uCP_r10 ?_ | refine uCQ_r10 ?_ | refine uCP_r0 ?_ | refine uCQ_r0 ?_ | exact uCP_none | exact uCQ_none | exact uCP_some | exact uCQ_some | exact uCP_sI | exact uCP_pI | exact uCP_sL | refine uCP_ite ?_ ?_ | refine uCQ_ite ?_ ?_ | refine uCP_bM ?_ (fun _ => ?_) | refine uCQ_bM ?_ (fun _ => ?_) | refine uCP_bQ ?_ (fun _ _ => ?_) | refine uCQ_bQ ?_ (fun _ _ => ?_) | refine uCP_bind (fun _ => ?_) | refine uCQ_bind (fun _ => ?_) | dsimp only)
theorem UC_X0_howMany_L4  : ∀ (n : Nat) (a1 : Int64) (a2 : Int32) (M : gM), uC_Q M (F_X0_howMany_L4   n (some 123) a1 a2 M) := by
  intro n
  induction n with
  | zero => intro a1 a2 M; exact uCQ_none
  | succ n ih => intro a1 a2 M; exact UC_X0_howMany_b4 ih _ _ _
theorem UC_X0_howMany_b0 (M : gM) : uC_Q M (F_X0_howMany_b0 (some 123) M) := by
  delta F_X0_howMany_b0
  with_reducible repeat' (first | exact UC_X0_howMany_L4  _ _ _ _ | refine uCP_gO ?_ | refine uCQ_gO ?_ | refine uCP_r9 ?_ | refine uCQ_r9 ?_ | refine uCP_r10 ?_ | refine uCQ_r10 ?_ | refine uCP_r0 ?_ | refine uCQ_r0 ?_ | exact uCP_none | exact uCQ_none | exact uCP_some | exact uCQ_some | exact uCP_sI | exact uCP_pI | exact uCP_sL | refine uCP_ite ?_ ?_ | refine uCQ_ite ?_ ?_ | refine uCP_bM ?_ (fun _ => ?_) | refine uCQ_bM ?_ (fun _ => ?_) | refine uCP_bQ ?_ (fun _ _ => ?_) | refine uCQ_bQ ?_ (fun _ _ => ?_) | refine uCP_bind (fun _ => ?_) | refine uCQ_bind (fun _ => ?_) | dsimp only)
theorem UC_X0_howMany (M : gM) : uC_Q M (F_X0_howMany (some 123) M) := by
  delta F_X0_howMany
  with_reducible repeat' (first | exact UC_X0_howMany_b0  _ | refine uCP_gO ?_ | refine uCQ_gO ?_ | refine uCP_r9 ?_ | refine uCQ_r9 ?_ | refine uCP_r10 ?_ | refine uCQ_r10 ?_ | refine uCP_r0 ?_ | refine uCQ_r0 ?_ | exact uCP_none | exact uCQ_none | exact uCP_some | exact uCQ_some | exact uCP_sI | exact uCP_pI | exact uCP_sL | refine uCP_ite ?_ ?_ | refine uCQ_ite ?_ ?_ | refine uCP_bM ?_ (fun _ => ?_) | refine uCQ_bM ?_ (fun _ => ?_) | refine uCP_bQ ?_ (fun _ _ => ?_) | refine uCQ_bQ ?_ (fun _ _ => ?_) | refine uCP_bind (fun _ => ?_) | refine uCQ_bind (fun _ => ?_) | dsimp only)
theorem UC_X11_ways_b75 {k26 : Option Nat → Int32 → Int32 → gM → Option (Int32 × gM)} {k41 : Option Nat → Int32 → Int32 → Int32 → gM → Option (Int32 × gM)} (hk26 : ∀ (a1 : Int32) (a2 : Int32) (M : gM), uC_Q M (k26 (some 2) a1 a2 M)) (hk41 : ∀ (a1 : Int32) (a2 : Int32) (a3 : Int32) (M : gM), uC_Q M (k41 (some 2) a1 a2 a3 M)) (l1 : Int32) (l2 : Int32) (l3 : Int32) (M : gM) : uC_Q M (F_X11_ways_b75 k26 k41 (some 2) l1 l2 l3 M) := by
  delta F_X11_ways_b75
  with_reducible repeat' (first | exact hk26 _ _ _ | exact hk41 _ _ _ _ | refine uCP_gO ?_ | refine uCQ_gO ?_ | refine uCP_r9 ?_ | refine uCQ_r9 ?_ | refine uCP_r10 ?_ | refine uCQ_r10 ?_ | refine uCP_r0 ?_ | refine uCQ_r0 ?_ | exact uCP_none | exact uCQ_none | exact uCP_some | exact uCQ_some | exact uCP_sI | exact uCP_pI | exact uCP_sL | refine uCP_ite ?_ ?_ | refine uCQ_ite ?_ ?_ | refine uCP_bM ?_ (fun _ => ?_) | refine uCQ_bM ?_ (fun _ => ?_) | refine uCP_bQ ?_ (fun _ _ => ?_) | refine uCQ_bQ ?_ (fun _ _ => ?_) | refine uCP_bind (fun _ => ?_) | refine uCQ_bind (fun _ => ?_) | dsimp only)
theorem UC_X11_ways_b41 {k26 : Option Nat → Int32 → Int32 → gM → Option (Int32 × gM)} {k41 : Option Nat → Int32 → Int32 → Int32 → gM → Option (Int32 × gM)} (hk26 : ∀ (a1 : Int32) (a2 : Int32) (M : gM), uC_Q M (k26 (some 2) a1 a2 M)) (hk41 : ∀ (a1 : Int32) (a2 : Int32) (a3 : Int32) (M : gM), uC_Q M (k41 (some 2) a1 a2 a3 M)) (l1 : Int32) (l2 : Int32) (l3 : Int32) (M : gM) : uC_Q M (F_X11_ways_b41 k26 k41 (some 2) l1 l2 l3 M) := by
  delta F_X11_ways_b41
  with_reducible repeat' (first | exact hk26 _ _ _ | exact hk41 _ _ _ _ | exact UC_X0_join  _ _ _ | exact UC_X11_ways_b75 (by assumption) (by assumption) _ _ _ _ | refine uCP_gO ?_ | refine uCQ_gO ?_ | refine uCP_r9 ?_ | refine uCQ_r9 ?_ | refine uCP_r10 ?_ | refine uCQ_r10 ?_ | refine uCP_r0 ?_ | refine uCQ_r0 ?_ | exact uCP_none | exact uCQ_none | exact uCP_some | exact uCQ_some | exact uCP_sI | exact uCP_pI | exact uCP_sL | refine uCP_ite ?_ ?_ | refine uCQ_ite ?_ ?_ | refine uCP_bM ?_ (fun _ => ?_) | refine uCQ_bM ?_ (fun _ => ?_) | refine uCP_bQ ?_ (fun _ _ => ?_) | refine uCQ_bQ ?_ (fun _ _ => ?_) | refine uCP_bind (fun _ => ?_) | refine uCQ_bind (fun _ => ?_) | dsimp only)
theorem UC_X11_ways_L41 {k26 : Option Nat → Int32 → Int32 → gM → Option (Int32 × gM)} (hk26 : ∀ (a1 : Int32) (a2 : Int32) (M : gM), uC_Q M (k26 (some 2) a1 a2 M))  : ∀ (n : Nat) (a1 : Int32) (a2 : Int32) (a3 : Int32) (M : gM), uC_Q M (F_X11_ways_L41 k26  n (some 2) a1 a2 a3 M) := by
  intro n
  induction n with
  | zero => intro a1 a2 a3 M; exact uCQ_none
  | succ n ih => intro a1 a2 a3 M; exact UC_X11_ways_b41 hk26 ih _ _ _ _
theorem UC_X11_ways_b26 {k26 : Option Nat → Int32 → Int32 → gM → Option (Int32 × gM)} (hk26 : ∀ (a1 : Int32) (a2 : Int32) (M : gM), uC_Q M (k26 (some 2) a1 a2 M)) (l1 : Int32) (l2 : Int32) (M : gM) : uC_Q M (F_X11_ways_b26 k26 (some 2) l1 l2 M) := by
  delta F_X11_ways_b26
  with_reducible repeat' (first | exact hk26 _ _ _ | exact UC_X0_howMany  _ | exact UC_X11_ways_L41 (by assumption) _ _ _ _ _ | refine uCP_gO ?_ | refine uCQ_gO ?_ | refine uCP_r9 ?_ | refine uCQ_r9 ?_ | refine uCP_r10 ?_ | refine uCQ_r10 ?_ | refine uCP_r0 ?_ | refine uCQ_r0 ?_ | exact uCP_none | exact uCQ_none | exact uCP_some | exact uCQ_some | exact uCP_sI | exact uCP_pI | exact uCP_sL | refine uCP_ite ?_ ?_ | refine uCQ_ite ?_ ?_ | refine uCP_bM ?_ (fun _ => ?_) | refine uCQ_bM ?_ (fun _ => ?_) | refine uCP_bQ ?_ (fun _ _ => ?_) | refine uCQ_bQ ?_ (fun _ _ => ?_) | refine uCP_bind (fun _ => ?_) | refine uCQ_bind (fun _ => ?_) | dsimp only)
theorem UC_X11_ways_L26  : ∀ (n : Nat) (a1 : Int32) (a2 : Int32) (M : gM), uC_Q M (F_X11_ways_L26   n (some 2) a1 a2 M) := by
  intro n
  induction n with
  | zero => intro a1 a2 M; exact uCQ_none
  | succ n ih => intro a1 a2 M; exact UC_X11_ways_b26 ih _ _ _
theorem UC_X11_ways_b0 (l1 : Int32) (M : gM) : uC_Q M (F_X11_ways_b0 (some 2) l1 M) := by
  delta F_X11_ways_b0
  with_reducible repeat' (first | exact UC_X0_clear  _ _ | exact UC_X11_ways_L26  _ _ _ _ | refine uCP_gO ?_ | refine uCQ_gO ?_ | refine uCP_r9 ?_ | refine uCQ_r9 ?_ | refine uCP_r10 ?_ | refine uCQ_r10 ?_ | refine uCP_r0 ?_ | refine uCQ_r0 ?_ | exact uCP_none | exact uCQ_none | exact uCP_some | exact uCQ_some | exact uCP_sI | exact uCP_pI | exact uCP_sL | refine uCP_ite ?_ ?_ | refine uCQ_ite ?_ ?_ | refine uCP_bM ?_ (fun _ => ?_) | refine uCQ_bM ?_ (fun _ => ?_) | refine uCP_bQ ?_ (fun _ _ => ?_) | refine uCQ_bQ ?_ (fun _ _ => ?_) | refine uCP_bind (fun _ => ?_) | refine uCQ_bind (fun _ => ?_) | dsimp only)
theorem UC_X11_ways (l1 : Int32) (M : gM) : uC_Q M (F_X11_ways (some 2) l1 M) := by
  delta F_X11_ways
  with_reducible repeat' (first | exact UC_X11_ways_b0  _ _ | refine uCP_gO ?_ | refine uCQ_gO ?_ | refine uCP_r9 ?_ | refine uCQ_r9 ?_ | refine uCP_r10 ?_ | refine uCQ_r10 ?_ | refine uCP_r0 ?_ | refine uCQ_r0 ?_ | exact uCP_none | exact uCQ_none | exact uCP_some | exact uCQ_some | exact uCP_sI | exact uCP_pI | exact uCP_sL | refine uCP_ite ?_ ?_ | refine uCQ_ite ?_ ?_ | refine uCP_bM ?_ (fun _ => ?_) | refine uCQ_bM ?_ (fun _ => ?_) | refine uCP_bQ ?_ (fun _ _ => ?_) | refine uCQ_bQ ?_ (fun _ _ => ?_) | refine uCP_bind (fun _ => ?_) | refine uCQ_bind (fun _ => ?_) | dsimp only)
/-! a call that is not compared -/
theorem uC_w {M M' : gM} (h : uC_R M M') : w_F q_N M M' := w_F_of h.1.1 h.1.2 (fun i hi => h.2 i hi)
theorem lw9_cPI {L : Nat} {lo hi : Int} {M : gM} {o : Option (Int32 × gM)} {β : Type} {f : Int32 × gM → Option β} {Q : β → Prop} (R : lw9 L M) (z1 : Ok o (q_PI q_ba M lo hi)) (u : uC_Q M o) (k : ∀ v M', lw9 L M' → M'.2.1 0 = M.2.1 0 → Ok (f (v, M')) Q) : Ok (o.bind f) Q := by
  obtain ⟨R8, e, σ, nx, sz, P, I, rc, Rr, C, E⟩ := R
  obtain ⟨⟨v, M1⟩, e1, y1⟩ := z1
  have F1 : w_F q_N M M1 := uC_w (u R8.2 (v, M1) e1)
  obtain ⟨R1, s1, rr⟩ := lw8_go (S := 0) R8 y1 rfl rfl rfl rfl rfl
  have hl := lw8_len R8.1.1.1
  have n2 := w_FN F1 hl (by unfold q_N; omega)
  have C1 := w_C_F C hl F1 (by rw [n2.2]) (by rw [n2.1]) (fun i z => by unfold q_N at z; omega)
  have E1 := w_E_c E rr
  rw [e1, Option.bind_some]
  exact k v M1 ⟨R1, e, σ, nx, sz, P, I, rc, Rr, C1, E1⟩ s1
theorem lw9_rPI {S L : Nat} {lo hi : Int} {M : gM} {o : Option (Int32 × gM)} {β : Type} {f : Int32 × gM → Option β} {Q : β → Prop} (R : lw9 L M) (hW : Nat.land S y_wb = 0) (hS : Nat.land S (2 ^ 1 + 2 ^ 2 + 2 ^ 41) = 0) (h6 : Nat.land S (2 ^ 21 + 2 ^ 22 + 2 ^ 59 + 2 ^ 60 + 2 ^ 61) = 0) (h9 : Nat.land S (2 ^ 2 + 2 ^ 25 + 2 ^ 42 + 2 ^ 44 + 2 ^ 45 + 2 ^ 52 + 2 ^ 58) = 0) (h50 : S.testBit 50 = false) (z : Ok o (y_PI S M lo hi)) (k : ∀ v M', lw9 L M' → M'.2.1 0 = M.2.1 0 → Ok (f (v, M')) Q) : Ok (o.bind f) Q := by
  obtain ⟨R8, e, σ, nx, sz, P, I, rc, Rr, C, E⟩ := R
  obtain ⟨⟨v, M2⟩, e2, y2⟩ := z
  obtain ⟨R2, s2⟩ := lw8_gr R8 hW hS h6 y2
  have E2 : ∀ j, j < 157 → M2.2.1 185 j = σ j := fun j _ => by rw [y_fa (i := 185) y2.2.2 (by decide) h50 j, E.1.1.1]
  rw [e2, Option.bind_some]
  exact k v M2 ⟨R2, e, M2.2.1 185, nx, sz, P, I, rc, Rr, w_C_congr (w_C_r C (lw8_len R8.1.1.1) y2.2.2) E2, w_E_r E y2.2.2 h9 rfl⟩ s2
theorem lw9_pi {β : Type} {lo hi : Int} {o : Option Int32} {f : Int32 → Option β} {Q : β → Prop} (h : Ok o (q_pi lo hi)) (k : ∀ v, Ok (f v) Q) : Ok (o.bind f) Q := Ok_b h (fun v _ => k v)
