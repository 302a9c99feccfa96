/-! a RULE is read -/
def n_cc (M : gM) (t : Nat) : Nat := (M.2.1 180 t).toInt.toNat
theorem n_cc1 {M : gM} (H : y_HT M) (t : Nat) : (M.2.1 180 t).toInt = (n_cc M t : Int) ∧ n_cc M t ≤ 12 := by
  have h := H.2.1 180 (by decide) t
  have h1 : 0 ≤ (M.2.1 180 t).toInt := h.1
  have h2 : (M.2.1 180 t).toInt ≤ 12 := h.2
  unfold n_cc
  omega
/-- a clause's steps stand, among those that are there -/
def p_cl (M : gM) (t q : Nat) : Prop := y_cl M t q ∧ (M.2.1 179 (q + 1)).toInt ≤ (n_l M t : Int) ∧ (0 ≤ (M.2.1 179 (q + 2)).toInt → (M.2.1 179 (q + 3)).toInt ≤ (n_l M t : Int))
theorem y_sg_c {f g : Nat → Int32} {x y : Int32} (h : y_sg f x y) (e : ∀ j : Nat, (j : Int) < y.toInt → g j = f j) : y_sg g x y := by
  refine ⟨h.1, ?_⟩
  have h1 := h.1
  rw [← h.2]
  exact y_evc (fun j a b => e j (by omega))
theorem p_cl_mo {M M' : gM} {t q : Nat} (C : p_cl M t q) (h1 : n_l M t ≤ n_l M' t) (h2 : ∀ j, j < 400 * t + n_l M t → M'.2.1 177 j = M.2.1 177 j) (h3 : ∀ j, j < 4 → M'.2.1 179 (q + j) = M.2.1 179 (q + j)) : p_cl M' t q := by
  have e0 : M'.2.1 179 q = M.2.1 179 q := h3 0 (by omega)
  have e1 := h3 1 (by omega)
  have e2 := h3 2 (by omega)
  have e3 := h3 3 (by omega)
  obtain ⟨⟨c1, c2⟩, c3, c4⟩ := C
  unfold p_cl y_cl
  rw [e0, e1, e2, e3]
  refine ⟨⟨y_sg_c c1 (fun j hj => h2 _ (by omega)), fun h => y_sg_c (c2 h) (fun j hj => h2 _ (by have := c4 h; omega))⟩, by omega, fun h => by have := c4 h; omega⟩
/-- c clauses of the rule t stand -/
def p_K (t c : Nat) (M : gM) : Prop := ((y_HT M ∧ t ≤ 5) ∧ (M.2.1 175 11).toInt = (t : Int)) ∧ (n_l M t ≤ n_x M ∧ n_x M ≤ n_s M) ∧ n_cc M t = c ∧ ∀ k, k < c → p_cl M t (48 * t + 4 * k)
abbrev p_A : Nat := 2 ^ 8 + 2 ^ 9 + 2 ^ 10 + 2 ^ 12 + 2 ^ 13 + 2 ^ 16 + 2 ^ 42 + 2 ^ 43 + 2 ^ 44 + 2 ^ 45 + 2 ^ 47
/-- what stands for rules ahead of t, stands -/
def p_G (S t : Nat) (M M' : gM) : Prop := y_Fr S M M' ∧ (∀ q, q < 400 * t → M'.2.1 177 q = M.2.1 177 q) ∧ (∀ q, q < 48 * t → M'.2.1 179 q = M.2.1 179 q) ∧ (∀ k, k ≠ t → M'.2.1 180 k = M.2.1 180 k)
theorem p_G_tr {S t : Nat} {M M1 M2 : gM} (h1 : p_G S t M M1) (h2 : p_G S t M1 M2) : p_G S t M M2 := ⟨y_tr h1.1 h2.1, fun q hq => (h2.2.1 q hq).trans (h1.2.1 q hq), fun q hq => (h2.2.2.1 q hq).trans (h1.2.2.1 q hq), fun q hq => (h2.2.2.2 q hq).trans (h1.2.2.2 q hq)⟩
theorem p_G_of {S S2 t : Nat} {M M' : gM} (f : y_Fr S M M') (h : Nat.land S S2 = S) (h2 : Nat.land S (2 ^ 42 + 2 ^ 44 + 2 ^ 45) = 0) : p_G S2 t M M' := ⟨y_fl h f, fun q _ => y_fa (i := 177) f (by decide) (y_dis h2 (by decide)) q, fun q _ => y_fa (i := 179) f (by decide) (y_dis h2 (by decide)) q, fun q _ => y_fa (i := 180) f (by decide) (y_dis h2 (by decide)) q⟩
theorem p_G_fl {S S2 t : Nat} {M M1 : gM} (h : Nat.land S S2 = S) (h1 : p_G S t M M1) : p_G S2 t M M1 := ⟨y_fl h h1.1, h1.2⟩
def p_R (S t c : Nat) (M : gM) : Int32 × gM → Prop := fun r => (y_HT r.2 ∧ p_G S t M r.2) ∧ ((r.1 = 0 ∧ r.2.2.1 175 9 ≠ 0) ∨ (r.1 = 1 ∧ p_K t c r.2 ∧ n_x M ≤ n_x r.2))
/-- while a clause is read: the places of its own four marks are ahead of all that changes -/
def p_D (t q : Nat) (M M' : gM) : Prop := p_F p_A t M M' ∧ (∀ j, j < q → M'.2.1 179 j = M.2.1 179 j) ∧ (∀ k, k ≠ t → M'.2.1 180 k = M.2.1 180 k)
theorem p_D_tr {t q : Nat} {M M1 M2 : gM} (h1 : p_D t q M M1) (h2 : p_D t q M1 M2) : p_D t q M M2 := ⟨p_F_tr h1.1 h2.1, fun j hj => (h2.2.1 j hj).trans (h1.2.1 j hj), fun k hk => (h2.2.2 k hk).trans (h1.2.2 k hk)⟩
theorem p_D_F {S t q : Nat} {M M' : gM} (f : p_F S t M M') (h : Nat.land S p_A = S) (h2 : Nat.land S (2 ^ 44 + 2 ^ 45) = 0) : p_D t q M M' := ⟨p_F_fl h f, fun j _ => y_fa (i := 179) f.1 (by decide) (y_dis h2 (by decide)) j, fun k _ => y_fa (i := 180) f.1 (by decide) (y_dis h2 (by decide)) k⟩
theorem p_D_G {t q : Nat} {M M' : gM} (f : p_D t q M M') (h : 48 * t ≤ q) : p_G p_A t M M' := ⟨f.1.1, fun j hj => f.1.2.2 j (by omega), fun j hj => f.2.1 j (by omega), f.2.2⟩
/-- a mark is made -/
theorem p_mark {S t a d c q j : Nat} {v : Int32} {M : gM} (I : p_I t a d c M) (hq : q ≤ j) (hj : j < 288) (hv : -1 ≤ v.toInt ∧ v.toInt ≤ 400) : p_I t a d c (mI M 179 j v) ∧ p_D t q M (mI M 179 j v) ∧ n_x (mI M 179 j v) = n_x M ∧ n_l (mI M 179 j v) t = n_l M t := by
  obtain ⟨H1, f1⟩ := y_set (M' := mI M 179 j v) (S := 2 ^ 44) I.1.1.1 (i := 179) (k := j) (by decide) rfl rfl y_mI1 (fun j a hj => y_mI2 hj) rfl hv (show Nat.testBit (2 ^ 44) 44 = true by decide)
  have x1 := n_fx f1 (by decide)
  refine ⟨p_I_of I H1 f1 (by decide) ⟨by rw [x1]; exact I.2.1.1, by rw [x1]; exact I.2.1.2⟩ (by rw [n_fm f1 (by decide)]; exact Nat.le_refl _), ⟨p_F_of f1 (by decide) (by decide) (by decide), fun k hk => mI_ne (Or.inr (by omega)), fun k _ => mI_ne (Or.inl (by decide))⟩, x1, n_fl f1 (by decide)⟩
theorem i_neg1 : (-1 : Int32).toInt = -1 := rfl
/-- the clause ends -/
theorem P_fade_b110 {t c q : Nat} {l1 : Int32} {M M0 : gM} (H : y_HT M) (ht : t ≤ 5) (e11 : (M.2.1 175 11).toInt = (t : Int)) (hx : n_l M t ≤ n_x M ∧ n_x M ≤ n_s M) (hq : q = 48 * t + 4 * c) (hl : l1.toInt = (q : Int)) (hc : c < 12) (D : p_D t q M0 M) (hcc : n_cc M t = c)
    (C0 : ∀ k, k < c → p_cl M0 t (48 * t + 4 * k))
    (h1 : y_sg (y_sn M t) (M.2.1 179 q) (M.2.1 179 (q + 1)) ∧ (M.2.1 179 (q + 1)).toInt ≤ (n_l M t : Int)) (h2 : 0 ≤ (M.2.1 179 (q + 2)).toInt → y_sg (y_sn M t) (M.2.1 179 (q + 2)) (M.2.1 178 t)) :
    Ok (F_X12_isFadeHere_b110 (some 175) l1 M) (fun r => (y_HT r.2 ∧ p_D t q M0 r.2) ∧ (r.1 = 1 ∧ p_K t (c + 1) r.2 ∧ n_x r.2 = n_x M)) := by
  have ct : (M.2.1 175 11).toNatClampNeg = t := i_cl e11
  have z3 : (3 : Int32).toInt = 3 := rfl
  have a1 := i_addc (x := l1) (c := (3 : Int32)) z3 (by omega) (by omega)
  have c3 : (l1 + (3 : Int32)).toNatClampNeg = q + 3 := i_cl (by omega)
  have ll := n_l1 H t
  have cc1 := n_cc1 H t
  delta F_X12_isFadeHere_b110
  rw [e_gR H (w := 179) rfl (by decide), Option.bind_some, e_gR H (w := 178) rfl (by decide), Option.bind_some, e_gI H, Option.bind_some, e_aI H (t := 20) (i := 178) (n := 7) rfl (by decide) (by omega) (by omega), Option.bind_some, ct, e_sI H (i := 179) (n := 288) rfl (by omega) (by omega), Option.bind_some, c3]
  obtain ⟨H5, f5⟩ := y_set (M' := mI M 179 (q + 3) (M.2.1 178 t)) (S := 2 ^ 44) H (i := 179) (k := q + 3) (by decide) rfl rfl y_mI1 (fun j a hj => y_mI2 hj) rfl (y_in (lo := -1) (hi := 400) rfl (by omega)) (show Nat.testBit (2 ^ 44) 44 = true by decide)
  have e3 : (mI M 179 (q + 3) (M.2.1 178 t)).2.1 179 (q + 3) = M.2.1 178 t := y_mI1
  have eo : ∀ j, j ≠ q + 3 → (mI M 179 (q + 3) (M.2.1 178 t)).2.1 179 j = M.2.1 179 j := fun j hj => mI_ne (Or.inr hj)
  generalize mI M 179 (q + 3) (M.2.1 178 t) = M5 at H5 f5 e3 eo ⊢
  have e11' := y_fk (i := 175) (k := 11) f5 (by decide)
  have e180 : ∀ k, M5.2.1 180 k = M.2.1 180 k := fun k => y_fa (i := 180) f5 (by decide) (by decide) k
  have inc : M5.2.1 180 t + (1 : Int32) = Int32.ofNat (c + 1) := n_inc (by rw [e180, cc1.1, hcc]) (by omega)
  rw [e_gR H5 (w := 180) rfl (by decide), Option.bind_some, e_gI H5, Option.bind_some, e11', e_aI H5 (t := 20) (i := 180) (n := 6) rfl (by decide) (by omega) (by omega), Option.bind_some, ct, e_sI H5 (i := 180) (n := 6) rfl (by omega) (by omega), Option.bind_some, ct, inc]
  have ci : (Int32.ofNat (c + 1)).toInt = ((c + 1 : Nat) : Int) := i_ofNat (by omega)
  obtain ⟨H9, f9⟩ := y_set (M' := mI M5 180 t (Int32.ofNat (c + 1))) (S := 2 ^ 45) H5 (i := 180) (k := t) (by decide) rfl rfl y_mI1 (fun j a hj => y_mI2 hj) rfl (y_in (lo := 0) (hi := 12) rfl (by omega)) (show Nat.testBit (2 ^ 45) 45 = true by decide)
  have e9 : (mI M5 180 t (Int32.ofNat (c + 1))).2.1 180 t = Int32.ofNat (c + 1) := y_mI1
  have e9o : ∀ k, k ≠ t → (mI M5 180 t (Int32.ofNat (c + 1))).2.1 180 k = M5.2.1 180 k := fun k hk => mI_ne (Or.inr hk)
  generalize mI M5 180 t (Int32.ofNat (c + 1)) = M9 at H9 f9 e9 e9o ⊢
  have F := y_tr (y_fl (S2 := 2 ^ 44 + 2 ^ 45) (by decide) f5) (y_fl (S2 := 2 ^ 44 + 2 ^ 45) (by decide) f9)
  have x9 := n_fx F (by decide)
  have s9 := n_fs F (by decide)
  have l9 := n_fl (t := t) F (by decide)
  have a9 : ∀ j, j ≠ q + 3 → M9.2.1 179 j = M.2.1 179 j := fun j hj => (y_fa (i := 179) f9 (by decide) (by decide) j).trans (eo j hj)
  have b9 : M9.2.1 179 (q + 3) = M.2.1 178 t := (y_fa (i := 179) f9 (by decide) (by decide) _).trans e3
  have sn9 : y_sn M9 t = y_sn M t := y_snf F (by decide) t
  have D9 : p_D t q M M9 := ⟨p_F_of F (by decide) (by decide) (by decide), fun j hj => a9 j (by omega), fun k hk => (e9o k hk).trans (e180 k)⟩
  have DD := p_D_tr D D9
  refine Ok_s ⟨⟨H9, DD⟩, rfl, ⟨⟨⟨H9, ht⟩, by rw [y_fk (i := 175) (k := 11) F (by decide)]; exact e11⟩, ⟨by rw [l9, x9]; exact hx.1, by rw [x9, s9]; exact hx.2⟩, ?_, fun k hk => ?_⟩, x9⟩
  · show (M9.2.1 180 t).toInt.toNat = c + 1
    rw [e9, ci]
    rfl
  · rcases Nat.lt_or_ge k c with h | h
    · exact p_cl_mo (C0 k h) DD.1.2.1 DD.1.2.2 (fun j hj => DD.2.1 _ (by omega))
    · have e : 48 * t + 4 * k = q := by omega
      rw [e]
      unfold p_cl y_cl
      rw [a9 q (by omega), a9 (q + 1) (by omega), a9 (q + 2) (by omega), b9, sn9, l9]
      exact ⟨⟨h1.1, h2⟩, h1.2, fun _ => by omega⟩
theorem P_isFadeHere {t c : Nat} {M : gM} (K : p_K t c M) (hc : c < 12) : Ok (F_X12_isFadeHere (some 175) M) (p_R p_A t (c + 1) M) := by
  obtain ⟨⟨⟨H, ht⟩, e11⟩, hx, hcc, C0⟩ := K
  have s1 := n_s1 H
  have cc1 := n_cc1 H t
  have e2 := n_le_le (M := M) (p := n_x M) hx.2
  delta F_X12_isFadeHere F_X12_isFadeHere_b0
  rw [e_gO H, Option.bind_some, R_passWord H hx.2, Option.bind_some]
  have I0 : p_I t (n_l M t) 0 0 M := ⟨⟨⟨H, ht⟩, e11⟩, ⟨hx.1, hx.2⟩, ⟨Nat.le_refl _, by rw [Nat.sub_self]; rfl⟩, Nat.zero_le _⟩
  have I2 : p_I t (n_l M t) 0 0 (n_at M (n_le M (n_x M))) := p_I_at I0 (by omega) e2.2
  have F2 : p_F p_E t M (n_at M (n_le M (n_x M))) := p_F_at H (by omega) (by decide)
  have x2 : n_x (n_at M (n_le M (n_x M))) = n_le M (n_x M) := n_at_x (by omega)
  have l2 : n_l (n_at M (n_le M (n_x M))) t = n_l M t := n_at_l
  have c2 : n_cc (n_at M (n_le M (n_x M))) t = c := by
    unfold n_cc
    rw [n_ata (by decide)]
    exact hcc
  generalize n_at M (n_le M (n_x M)) = M2 at I2 F2 x2 l2 c2 ⊢
  have H2 := I2.1.1.1
  have t2 := I2.1.2
  have ct2 : (M2.2.1 175 11).toNatClampNeg = t := i_cl t2
  have ll2 := n_l1 H2 t
  have cc2 := n_cc1 H2 t
  have a1 := i_mulL (c := (48 : Int32)) (x := M2.2.1 175 11) (n := 48) rfl (by omega) (by omega)
  have a2 := i_mulL (c := (4 : Int32)) (x := M2.2.1 180 t) (n := 4) rfl (by omega) (by omega)
  have a3 := i_add (x := (48 : Int32) * M2.2.1 175 11) (y := (4 : Int32) * M2.2.1 180 t) (by omega) (by omega)
  rw [e_gI H2, Option.bind_some, e_gR H2 (w := 180) rfl (by decide), Option.bind_some, Option.bind_some, e_aI H2 (t := 20) (i := 180) (n := 6) rfl (by decide) (by omega) (by omega), Option.bind_some, ct2]
  obtain ⟨q, hq⟩ : ∃ q, q = 48 * t + 4 * c := ⟨_, rfl⟩
  obtain ⟨l, hl⟩ : ∃ l, l = (48 : Int32) * M2.2.1 175 11 + (4 : Int32) * M2.2.1 180 t := ⟨_, rfl⟩
  rw [← hl] at a3 ⊢
  have lq : l.toInt = (q : Int) := by omega
  have lc : l.toNatClampNeg = q := i_cl lq
  have b1 := i_addc (x := l) (c := (1 : Int32)) (n := 1) rfl (by omega) (by omega)
  have b2 := i_addc (x := l) (c := (2 : Int32)) (n := 2) rfl (by omega) (by omega)
  have lc1 : (l + (1 : Int32)).toNatClampNeg = q + 1 := i_cl (by omega)
  have lc2 : (l + (2 : Int32)).toNatClampNeg = q + 2 := i_cl (by omega)
  rw [e_gR H2 (w := 179) rfl (by decide), Option.bind_some, e_gR H2 (w := 178) rfl (by decide), Option.bind_some, Option.bind_some, e_aI H2 (t := 20) (i := 178) (n := 7) rfl (by decide) (by omega) (by omega), Option.bind_some, ct2, e_sI H2 (i := 179) (n := 288) rfl (by omega) (by omega), Option.bind_some, lc]
  obtain ⟨I11, D11, x11, l11⟩ := p_mark (S := 0) (q := q) (j := q) (v := M2.2.1 178 t) I2 (Nat.le_refl _) (by omega) (by omega)
  have v11 : (mI M2 179 q (M2.2.1 178 t)).2.1 179 q = M2.2.1 178 t := y_mI1
  have c11 : n_cc (mI M2 179 q (M2.2.1 178 t)) t = c := by
    unfold n_cc
    rw [mI_ne (Or.inl (by decide))]
    exact c2
  generalize mI M2 179 q (M2.2.1 178 t) = M11 at I11 D11 x11 l11 v11 c11 ⊢
  have H11 := I11.1.1.1
  have D2 : p_D t q M M11 := p_D_tr (p_D_F F2 (by decide) (by decide)) D11
  rw [e_gC H11, Option.bind_some]
  refine Ok_b (P_sum I11) (fun y z => ?_)
  obtain ⟨v13, M14⟩ := y
  obtain ⟨⟨H14, F14⟩, ⟨h5, g5⟩ | ⟨h5, I14, x14⟩⟩ := z
  · dsimp only at h5 g5 H14 F14 ⊢
    subst h5
    rw [if_pos rfl]
    exact Ok_s ⟨⟨H14, p_D_G (p_D_tr D2 (p_D_F F14 (by decide) (by decide))) (by omega)⟩, Or.inl ⟨rfl, g5⟩⟩
  dsimp only at h5 I14 x14 H14 F14 ⊢
  subst h5
  have D14 := p_D_tr D2 (p_D_F (q := q) F14 (by decide) (by decide))
  have v14 : M14.2.1 179 q = M2.2.1 178 t := (y_fa (i := 179) F14.1 (by decide) (by decide) q).trans v11
  have c14 : n_cc M14 t = c := by
    unfold n_cc
    rw [y_fa (i := 180) F14.1 (by decide) (by decide) t]
    exact c11
  have t14 := I14.1.2
  have ct14 : (M14.2.1 175 11).toNatClampNeg = t := i_cl t14
  have ll14 := n_l1 H14 t
  rw [if_neg (by decide), e_gR H14 (w := 179) rfl (by decide), Option.bind_some, e_gR H14 (w := 178) rfl (by decide), Option.bind_some, e_gI H14, Option.bind_some, e_aI H14 (t := 20) (i := 178) (n := 7) rfl (by decide) (by omega) (by omega), Option.bind_some, ct14, e_sI H14 (i := 179) (n := 288) rfl (by omega) (by omega), Option.bind_some, lc1]
  obtain ⟨I19, D19, x19, l19⟩ := p_mark (S := 0) (q := q) (j := q + 1) (v := M14.2.1 178 t) I14 (by omega) (by omega) (by omega)
  have v19 : (mI M14 179 (q + 1) (M14.2.1 178 t)).2.1 179 (q + 1) = M14.2.1 178 t := y_mI1
  have w19 : (mI M14 179 (q + 1) (M14.2.1 178 t)).2.1 179 q = M2.2.1 178 t := (mI_ne (Or.inr (by omega))).trans v14
  have c19 : n_cc (mI M14 179 (q + 1) (M14.2.1 178 t)) t = c := by
    unfold n_cc
    rw [mI_ne (Or.inl (by decide))]
    exact c14
  generalize mI M14 179 (q + 1) (M14.2.1 178 t) = M19 at I19 D19 x19 l19 v19 w19 c19 ⊢
  have H19 := I19.1.1.1
  rw [e_gR H19 (w := 179) rfl (by decide), Option.bind_some, e_sI H19 (i := 179) (n := 288) rfl (by omega) (by omega), Option.bind_some, lc2]
  obtain ⟨I21, D21, x21, l21⟩ := p_mark (S := 0) (q := q) (j := q + 2) (v := (-1 : Int32)) I19 (by omega) (by omega) (by decide)
  have u21 : (mI M19 179 (q + 2) (-1 : Int32)).2.1 179 (q + 2) = -1 := y_mI1
  have v21 : (mI M19 179 (q + 2) (-1 : Int32)).2.1 179 (q + 1) = M14.2.1 178 t := (mI_ne (Or.inr (by omega))).trans v19
  have w21 : (mI M19 179 (q + 2) (-1 : Int32)).2.1 179 q = M2.2.1 178 t := (mI_ne (Or.inr (by omega))).trans w19
  have c21 : n_cc (mI M19 179 (q + 2) (-1 : Int32)) t = c := by
    unfold n_cc
    rw [mI_ne (Or.inl (by decide))]
    exact c19
  generalize mI M19 179 (q + 2) (-1 : Int32) = M21 at I21 D21 x21 l21 u21 v21 w21 c21 ⊢
  have H21 := I21.1.1.1
  have h21 := I21.2.1
  have s21 := n_s1 H21
  have k21 := n_sk_le h21.2
  have D' : p_D t q M M21 := p_D_tr D14 (p_D_tr D19 D21)
  have la : n_l M21 t = n_l M14 t := by omega
  have sg : y_sg (y_sn M21 t) (M21.2.1 179 q) (M21.2.1 179 (q + 1)) ∧ (M21.2.1 179 (q + 1)).toInt ≤ (n_l M21 t : Int) := by
    have hev := I21.2.2.1
    rw [w21, v21]
    refine ⟨⟨by omega, ?_⟩, by omega⟩
    rw [show (M2.2.1 178 t).toInt.toNat = n_l M t by omega, show ((M14.2.1 178 t).toInt - (M2.2.1 178 t).toInt).toNat = n_l M21 t - n_l M t by omega]
    exact hev.2
  rw [e_gC H21, Option.bind_some, R_takesWord H21 h21.2, Option.bind_some]
  -- what stands behind see and a word
  have mv : ∀ p, n_x M21 ≤ p → p ≤ n_s M21 → p_I t (n_l M t) 1 0 (n_at M21 p) ∧ p_D t q M (n_at M21 p) ∧ n_x (n_at M21 p) = p ∧ n_l (n_at M21 p) t = n_l M21 t ∧ (∀ j, (n_at M21 p).2.1 179 j = M21.2.1 179 j) ∧ y_sn (n_at M21 p) t = y_sn M21 t ∧ n_cc (n_at M21 p) t = c ∧ n_s (n_at M21 p) = n_s M21 := by
    intro p h1 h2
    have Ip : p_I t (n_l M t) (0 + 1) 0 (n_at M21 p) := p_I_at I21 (by omega) h2
    have fp := (n_at_set (p := p) H21 (by omega)).2
    refine ⟨Ip, p_D_tr D' (p_D_F (S := p_E) (p_F_at H21 (by omega) (by decide)) (by decide) (by decide)), n_at_x (by omega), n_at_l, fun j => y_fa (i := 179) fp (by decide) (by decide) j, y_snf fp (by decide) t, ?_, n_at_s⟩
    unfold n_cc
    rw [y_fa (i := 180) fp (by decide) (by decide) t]
    exact c21
  by_cases cw : n_w M21 (n_sk M21 (n_x M21)) 26982 = true
  · rw [if_pos cw]
    dsimp only
    have e9 := n_le_le (M := M21) (p := n_sk M21 (n_x M21)) (by omega)
    obtain ⟨I24, D24, x24, l24, a24, sn24, c24, s24⟩ := mv (n_le M21 (n_sk M21 (n_x M21))) (by omega) e9.2
    generalize n_at M21 (n_le M21 (n_sk M21 (n_x M21))) = M24 at I24 D24 x24 l24 a24 sn24 c24 s24 ⊢
    have H24 := I24.1.1.1
    have t24 := I24.1.2
    have ct24 : (M24.2.1 175 11).toNatClampNeg = t := i_cl t24
    have ll24 := n_l1 H24 t
    rw [if_neg (by decide), e_gR H24 (w := 179) rfl (by decide), Option.bind_some, e_gR H24 (w := 178) rfl (by decide), Option.bind_some, e_gI H24, Option.bind_some, e_aI H24 (t := 20) (i := 178) (n := 7) rfl (by decide) (by omega) (by omega), Option.bind_some, ct24, e_sI H24 (i := 179) (n := 288) rfl (by omega) (by omega), Option.bind_some, lc2]
    obtain ⟨I29, D29, x29, l29⟩ := p_mark (S := 0) (q := q) (j := q + 2) (v := M24.2.1 178 t) I24 (by omega) (by omega) (by omega)
    have u29 : (mI M24 179 (q + 2) (M24.2.1 178 t)).2.1 179 (q + 2) = M24.2.1 178 t := y_mI1
    have v29 : ∀ j, j ≠ q + 2 → (mI M24 179 (q + 2) (M24.2.1 178 t)).2.1 179 j = M21.2.1 179 j := fun j hj => (mI_ne (Or.inr hj)).trans (a24 j)
    have sn29 : y_sn (mI M24 179 (q + 2) (M24.2.1 178 t)) t = y_sn M21 t := Eq.trans (funext (fun j => mI_ne (Or.inl (by decide)))) sn24
    have c29 : n_cc (mI M24 179 (q + 2) (M24.2.1 178 t)) t = c := by
      unfold n_cc
      rw [mI_ne (Or.inl (by decide))]
      exact c24
    generalize mI M24 179 (q + 2) (M24.2.1 178 t) = M29 at I29 D29 x29 l29 u29 v29 sn29 c29 ⊢
    have H29 := I29.1.1.1
    have ll29 := n_l1 H29 t
    have J29 : p_I t (n_l M29 t) 0 0 M29 := ⟨I29.1, ⟨I29.2.1.1, I29.2.1.2⟩, ⟨Nat.le_refl _, by rw [Nat.sub_self]; rfl⟩, Nat.zero_le _⟩
    rw [e_gC H29, Option.bind_some]
    refine Ok_b (P_tested J29) (fun y z => ?_)
    obtain ⟨v31, M32⟩ := y
    obtain ⟨⟨H32, F32⟩, ⟨h5, g5⟩ | ⟨h5, I32, x32⟩⟩ := z
    · dsimp only at h5 g5 H32 F32 ⊢
      subst h5
      rw [if_pos rfl]
      exact Ok_s ⟨⟨H32, p_D_G (p_D_tr D24 (p_D_tr D29 (p_D_F F32 (by decide) (by decide)))) (by omega)⟩, Or.inl ⟨rfl, g5⟩⟩
    dsimp only at h5 I32 x32 H32 F32 ⊢
    subst h5
    rw [if_neg (by decide)]
    have a32 : ∀ j, M32.2.1 179 j = M29.2.1 179 j := fun j => y_fa (i := 179) F32.1 (by decide) (by decide) j
    have c32 : n_cc M32 t = c := by
      unfold n_cc
      rw [y_fa (i := 180) F32.1 (by decide) (by decide) t]
      exact c29
    have ll32 := n_l1 H32 t
    have g1 := F32.2.1
    refine Ok_w (P_fade_b110 (q := q) (c := c) (M0 := M) H32 ht I32.1.2 ⟨I32.2.1.1, I32.2.1.2⟩ hq lq hc (p_D_tr D24 (p_D_tr D29 (p_D_F F32 (by decide) (by decide)))) c32 C0 ⟨?_, ?_⟩ (fun _ => ?_)) (fun r z => ?_)
    · rw [a32, a32, v29 q (by omega), v29 (q + 1) (by omega)]
      refine y_sg_c sg.1 (fun j hj => ?_)
      show M32.2.1 177 (400 * t + j) = _
      rw [F32.2.2 _ (by have := sg.2; omega)]
      exact congrFun sn29 j
    · rw [a32, v29 (q + 1) (by omega)]
      have := sg.2
      omega
    · rw [a32, u29]
      have hev := I32.2.2.1
      refine ⟨by omega, ?_⟩
      rw [show (M24.2.1 178 t).toInt.toNat = n_l M29 t by omega, show ((M32.2.1 178 t).toInt - (M24.2.1 178 t).toInt).toNat = n_l M32 t - n_l M29 t by omega]
      exact hev.2
    · exact ⟨⟨z.1.1, p_D_G z.1.2 (by omega)⟩, Or.inr ⟨z.2.1, z.2.2.1, by have := z.2.2.2; omega⟩⟩
  · rw [if_neg cw]
    dsimp only
    obtain ⟨I24, D24, x24, l24, a24, sn24, c24, s24⟩ := mv (n_sk M21 (n_x M21)) (by omega) (by omega)
    generalize n_at M21 (n_sk M21 (n_x M21)) = M24 at I24 D24 x24 l24 a24 sn24 c24 s24 ⊢
    have H24 := I24.1.1.1
    rw [if_pos rfl]
    refine Ok_w (P_fade_b110 (q := q) (c := c) (M0 := M) H24 ht I24.1.2 ⟨I24.2.1.1, I24.2.1.2⟩ hq lq hc D24 c24 C0 ⟨?_, ?_⟩ (fun h => ?_)) (fun r z => ?_)
    · rw [a24, a24, sn24]
      exact sg.1
    · rw [a24, l24]
      exact sg.2
    · rw [a24, u21] at h
      exact absurd h (by decide)
    · exact ⟨⟨z.1.1, p_D_G z.1.2 (by omega)⟩, Or.inr ⟨z.2.1, z.2.2.1, by have := z.2.2.2; omega⟩⟩
