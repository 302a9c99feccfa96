/-! TESTS: signs that wait -/
def n_st (s : Int32) : Int32 := if s = 13 then 1 else if s = 12 then 2 else if s = 11 then 3 else 0
theorem R_strength {s : Int32} {M : gM} : F_X12_strength s M = some (n_st s) := by
  delta F_X12_strength F_X12_strength_b0
  unfold n_st
  split
  · rfl
  · split
    · rfl
    · split <;> rfl
/-- how many of the waiting signs join two -/
def p_nb (f : Nat → Int32) : Nat → Nat
  | 0 => 0
  | n + 1 => p_nb f n + (if f n = 12 ∨ f n = 13 then 1 else 0)
theorem p_nb_c {f g : Nat → Int32} : ∀ {n : Nat}, (∀ k, k < n → f k = g k) → p_nb f n = p_nb g n := by
  intro n
  induction n with
  | zero => intro _; rfl
  | succ n ih =>
    intro h
    unfold p_nb
    rw [ih (fun k hk => h k (by omega)), h n (by omega)]
def n_w2 (M : gM) : Nat → Int32 := M.2.1 182
def p_wt (f : Nat → Int32) (n : Nat) : Prop := ∀ k, k < n → f k = 91 ∨ f k = 11 ∨ f k = 12 ∨ f k = 13
/-- while a TEST is read: e is 0 ahead of a FACT, 1 behind it -/
def p_J (t a e c : Nat) (M : gM) : Prop := p_I t a (p_nb (n_w2 M) (n_o M) + e) (n_o M + c) M ∧ p_wt (n_w2 M) (n_o M)
abbrev p_T : Nat := 2 ^ 8 + 2 ^ 9 + 2 ^ 10 + 2 ^ 12 + 2 ^ 13 + 2 ^ 16 + 2 ^ 42 + 2 ^ 43 + 2 ^ 47
def p_Q (S t a e c : Nat) (M : gM) : Int32 × gM → Prop := fun r => (y_HT r.2 ∧ p_F S t M r.2) ∧ ((r.1 = 0 ∧ r.2.2.1 175 9 ≠ 0) ∨ (r.1 = 1 ∧ p_J t a e c r.2 ∧ n_x M ≤ n_x r.2))
theorem p_Q0 {S t a d c : Nat} {M M' : gM} (H : y_HT M') (f : p_F S t M M') (h : M'.2.1 175 9 ≠ 0) : Ok (some ((0 : Int32), M')) (p_Q S t a d c M) := Ok_s ⟨⟨H, f⟩, Or.inl ⟨rfl, h⟩⟩
theorem p_Q1 {S t a d c : Nat} {M M' : gM} (I : p_J t a d c M') (f : p_F S t M M') (hx : n_x M ≤ n_x M') : Ok (some ((1 : Int32), M')) (p_Q S t a d c M) := Ok_s ⟨⟨I.1.1.1.1, f⟩, Or.inr ⟨rfl, I, hx⟩⟩
theorem p_Qw {S S1 t a d c : Nat} {M M1 : gM} {o : Option (Int32 × gM)} (f : p_F S t M M1) (hx : n_x M ≤ n_x M1) (h : Ok o (p_Q S1 t a d c M1)) (hS : Nat.land S1 S = S1) : Ok o (p_Q S t a d c M) := Ok_w h (fun _ z => ⟨⟨z.1.1, p_F_tr f (p_F_fl hS z.1.2)⟩, z.2.imp id (fun w => ⟨w.1, w.2.1, Nat.le_trans hx w.2.2⟩)⟩)
theorem p_Qf {S t a d c : Nat} {M M1 : gM} {k p : Int32} {q : Nat} (H : y_HT M1) (f : p_F S t M M1) (hS : Nat.land (2 ^ 9) S = 2 ^ 9) (hp : p.toInt = (q : Int)) (hq : q ≤ 400) (hk : 0 ≤ k.toInt ∧ k.toInt ≤ 4) : Ok (some ((0 : Int32), n_f M1 k p)) (p_Q S t a d c M) :=
  p_Q0 (n_f_set H).1 (p_F_tr f (p_F_f H hS)) (n_f9 hp hq hk)
/-- what leaves the waiting signs alone -/
theorem p_J_of {S t a e c2 : Nat} {M M' : gM} (W : p_wt (n_w2 M) (n_o M)) (f : y_Fr S M M') (h : Nat.land S (2 ^ 16 + 2 ^ 47) = 0) (I : p_I t a (p_nb (n_w2 M) (n_o M) + e) (n_o M + c2) M') : p_J t a e c2 M' := by
  have o := n_fo f (y_dis h (by decide))
  have w : n_w2 M' = n_w2 M := funext (fun q => y_fa (i := 182) f (by decide) (y_dis h (by decide)) q)
  unfold p_J
  rw [o, w]
  exact ⟨I, W⟩
theorem p_J_at {t a e c c2 p : Nat} {M : gM} (J : p_J t a e c M) (h : n_l M t + n_o M + c2 ≤ p) (hp : p ≤ n_s M) : p_J t a e c2 (n_at M p) := by
  have s1 := n_s1 J.1.1.1.1
  exact p_J_of J.2 (n_at_set J.1.1.1.1 (by omega)).2 (by decide) (p_I_at J.1 (by omega) hp)
/-- a sign waits -/
def n_op (M : gM) (w : Int32) : gM := mI (mI M 182 (n_o M) w) 175 16 (Int32.ofNat (n_o M + 1))
theorem n_op_set {M : gM} {w : Int32} (H : y_HT M) (h : n_o M < 400) : y_HT (n_op M w) ∧ y_Fr (2 ^ 16 + 2 ^ 47) M (n_op M w) := by
  obtain ⟨H1, f1⟩ := y_set (M' := mI M 182 (n_o M) w) (S := 2 ^ 16 + 2 ^ 47) H (i := 182) (k := n_o M) (by decide) rfl rfl y_mI1 (fun j a hj => y_mI2 hj) rfl (y_full rfl) (show Nat.testBit (2 ^ 16 + 2 ^ 47) 47 = true by decide)
  obtain ⟨H2, f2⟩ := y_set (M' := n_op M w) (S := 2 ^ 16 + 2 ^ 47) H1 (i := 175) (k := 16) (by decide) rfl rfl y_mI1 (fun j a hj => y_mI2 hj) rfl (by
    show y_rg (0, 400) _
    unfold y_rg
    rw [i_ofNat (by omega)]
    exact ⟨by omega, by show ((n_o M + 1 : Nat) : Int) ≤ 400; omega⟩) (by decide)
  exact ⟨H2, y_tr f1 f2⟩
theorem n_op_o {M : gM} {w : Int32} (h : n_o M < 400) : n_o (n_op M w) = n_o M + 1 := by
  show ((n_op M w).2.1 175 16).toInt.toNat = _
  unfold n_op
  rw [y_mI1, i_ofNat (by omega)]
  omega
theorem n_op_w {M : gM} {w : Int32} : n_w2 (n_op M w) (n_o M) = w ∧ ∀ k, k ≠ n_o M → n_w2 (n_op M w) k = n_w2 M k :=
  ⟨(mI_ne (Or.inl (by decide))).trans y_mI1, fun k hk => (mI_ne (Or.inl (by decide))).trans (mI_ne (Or.inr hk))⟩
theorem p_J_op {S t a c : Nat} {e e2 : Nat} {M : gM} {w : Int32} (J : p_J t a e c M) (h : n_o M < 400) (hw : w = 91 ∨ w = 11 ∨ w = 12 ∨ w = 13) (he : e = (if w = 12 ∨ w = 13 then 1 else 0) + e2) (hc : n_l M t + n_o M + 1 + c ≤ n_x M) (hS : Nat.land (2 ^ 16 + 2 ^ 47) S = 2 ^ 16 + 2 ^ 47) : p_J t a e2 c (n_op M w) ∧ p_F S t M (n_op M w) ∧ n_x (n_op M w) = n_x M := by
  have H := J.1.1.1.1
  obtain ⟨H2, f2⟩ := n_op_set (w := w) H h
  have o2 := n_op_o (w := w) h
  have x2 := n_fx f2 (by decide)
  have e1 : p_nb (n_w2 (n_op M w)) (n_o M) = p_nb (n_w2 M) (n_o M) := p_nb_c (fun k hk => n_op_w.2 k (by omega))
  refine ⟨⟨?_, ?_⟩, p_F_of f2 hS (by decide) (by decide), x2⟩
  · rw [o2]
    show p_I t a (p_nb (n_w2 (n_op M w)) (n_o M) + (if n_w2 (n_op M w) (n_o M) = 12 ∨ n_w2 (n_op M w) (n_o M) = 13 then 1 else 0) + e2) (n_o M + 1 + c) (n_op M w)
    rw [e1, n_op_w.1, Nat.add_assoc, ← he]
    exact p_I_of J.1 H2 f2 (by decide) ⟨by rw [x2]; omega, by rw [x2]; exact J.1.2.1.2⟩ (by rw [n_fm f2 (by decide)]; exact Nat.le_refl _)
  · rw [o2]
    intro k hk
    rcases Nat.lt_or_ge k (n_o M) with h1 | h1
    · rw [n_op_w.2 k (by omega)]
      exact J.2 k h1
    · have : k = n_o M := by omega
      subst this
      rw [n_op_w.1]
      exact hw
theorem R_opens {w : Int32} {M : gM} (H : y_HT M) (h : n_o M < 400) : F_X12_opens (some 175) w M = some (if M.2.1 175 13 = 10 then (0, n_f M 2 (M.2.1 175 8)) else (1, n_op (mI M 175 13 (M.2.1 175 13 + (1 : Int32))) w)) := by
  delta F_X12_opens F_X12_opens_b0
  have o1 := n_o1 H
  simp only [e_gI H, e_gO H, e_pI H, Option.bind_some, R_fails H]
  by_cases c : M.2.1 175 13 = 10
  · rw [if_pos c, if_pos c, if_pos (Or.inl trivial)]
  · rw [if_neg c, if_neg c]
    obtain ⟨M1, hM1⟩ : ∃ M1, M1 = mI M 175 13 (M.2.1 175 13 + (1 : Int32)) := ⟨_, rfl⟩
    have H1 : y_HT M1 := by
      subst hM1
      exact (y_set (M' := mI M 175 13 (M.2.1 175 13 + (1 : Int32))) (S := 2 ^ 13) H (i := 175) (k := 13) (by decide) rfl rfl y_mI1 (fun j a hj => y_mI2 hj) rfl (y_full rfl) (by decide)).1
    have o2 : M1.2.1 175 16 = M.2.1 175 16 := by
      subst hM1
      exact mI_ne (Or.inr (by decide))
    have n2 : n_o M1 = n_o M := by
      unfold n_o
      rw [o2]
    rw [← hM1]
    have H2 : y_HT (mI M1 182 (n_o M1) w) := (y_set (M' := mI M1 182 (n_o M1) w) (S := 2 ^ 47) H1 (i := 182) (k := n_o M1) (by decide) rfl rfl y_mI1 (fun j a hj => y_mI2 hj) rfl (y_full rfl) (show Nat.testBit (2 ^ 47) 47 = true by decide)).1
    have o3 : (mI M1 182 (n_o M1) w).2.1 175 16 = M1.2.1 175 16 := mI_ne (Or.inl (by decide))
    rw [e_gR H1 (w := 182) rfl (by decide), Option.bind_some, e_gI H1, Option.bind_some, e_sI H1 (i := 182) (n := 400) rfl (by rw [o2]; omega) (by rw [o2]; omega), Option.bind_some, show (M1.2.1 175 16).toNatClampNeg = n_o M1 from rfl, e_gI H2, Option.bind_some, e_pI H2, Option.bind_some, o3, n_inc (x := M1.2.1 175 16) (n := n_o M1) (by rw [o2, n2]; exact o1.1) (by omega)]
    rfl
/-- opens: what waits -/
theorem P_opens {t a c : Nat} {w : Int32} {M : gM} (hw : w = 91 ∨ w = 11) (J : p_J t a 0 c M) (h : n_o M < 400) (hc : n_l M t + n_o M + c ≤ n_x M) : Ok (F_X12_opens (some 175) w M) (fun r => (y_HT r.2 ∧ p_F p_T t M r.2) ∧ ((r.1 = 0 ∧ r.2.2.1 175 9 ≠ 0) ∨ (r.1 = 1 ∧ n_x r.2 = n_x M ∧ ∀ p, n_l M t + n_o M + 1 + c ≤ p → p ≤ n_s M → p_J t a 0 c (n_at r.2 p)))) := by
  have H := J.1.1.1.1
  have x1 := n_x1 H
  rw [R_opens H h]
  by_cases e : M.2.1 175 13 = 10
  · rw [if_pos e]
    exact Ok_s ⟨⟨(n_f_set H).1, p_F_f H (by decide)⟩, Or.inl ⟨rfl, n_f9 x1.1 (by omega) (by decide)⟩⟩
  · rw [if_neg e]
    obtain ⟨H1, f1⟩ := y_set (M' := mI M 175 13 (M.2.1 175 13 + (1 : Int32))) (S := 2 ^ 13) H (i := 175) (k := 13) (by decide) rfl rfl y_mI1 (fun j a hj => y_mI2 hj) rfl (y_full rfl) (by decide)
    generalize mI M 175 13 (M.2.1 175 13 + (1 : Int32)) = M1 at H1 f1 ⊢
    have o1 := n_fo f1 (by decide)
    have l1 := n_fl (t := t) f1 (by decide)
    have xx := n_fx f1 (by decide)
    have ss := n_fs f1 (by decide)
    have s1 := n_s1 H
    obtain ⟨H2, f2⟩ := n_op_set (w := w) H1 (by omega)
    have o2 := n_op_o (M := M1) (w := w) (by omega)
    have x2 := n_fx f2 (by decide)
    have l2 := n_fl (t := t) f2 (by decide)
    have s2 := n_fs f2 (by decide)
    refine Ok_s ⟨⟨H2, p_F_tr (p_F_of f1 (by decide) (by decide) (by decide)) (p_F_of f2 (by decide) (by decide) (by decide))⟩, Or.inr ⟨rfl, by show n_x (n_op M1 w) = n_x M; omega, fun p hp hp2 => ?_⟩⟩
    have w1 : n_w2 M1 = n_w2 M := funext (fun q => y_fa (i := 182) f1 (by decide) (by decide) q)
    have J1 : p_J t a 0 0 (n_at M1 p) := by
      refine p_J_at (c := c) (p_J_of (c2 := c) J.2 f1 (by decide) (p_I_of J.1 H1 f1 (by decide) ⟨by rw [xx]; omega, by rw [xx]; exact J.1.2.1.2⟩ (by rw [n_fm f1 (by decide)]; exact Nat.le_refl _))) (by omega) (by omega)
    have e9 : n_at (n_op M1 w) p = n_op (n_at M1 p) w := by
      unfold n_op
      rw [n_at_o]
      unfold n_at mI
      refine congrArg (fun f => (M1.1, f, M1.2.2.1, M1.2.2.2)) ?_
      funext i k
      unfold g_up
      by_cases h1 : i = 175
      · subst h1
        by_cases h2 : k = 8
        · subst h2
          simp
        · simp [h2]
      · by_cases h3 : i = 182
        · subst h3
          simp
        · simp [h1, h3]
    rw [e9]
    have J2 := (p_J_op (S := p_T) (c := 0) (e2 := 0) (w := w) J1 (by rw [n_at_o]; omega) (by rcases hw with e | e <;> subst e <;> decide) (by rcases hw with e | e <;> subst e <;> rfl) (by rw [n_at_l, n_at_o, n_at_x (by omega)]; omega) (by decide)).1
    have o4 : n_o (n_op (n_at M1 p) w) = n_o M + 1 := by
      rw [n_op_o (by rw [n_at_o]; omega), n_at_o, o1]
    obtain ⟨q1, q2⟩ := J2
    rw [o4] at q1 q2
    refine ⟨?_, by rw [o4]; exact q2⟩
    rw [o4]
    refine p_I_of q1 q1.1.1.1 (y_rf0 0 _) (by decide) ⟨?_, q1.2.1.2⟩ (Nat.le_refl _)
    have q3 := (n_op_set (M := n_at M1 p) (w := w) (n_atH H1 (by omega)) (by rw [n_at_o]; omega)).2
    rw [n_fl (t := t) q3 (by decide), n_fx q3 (by decide), n_at_l, n_at_x (by omega)]
    omega
/-- compare, in a TEST -/
theorem P_compareJ {t a c : Nat} {M : gM} (J : p_J t a 0 c M) : Ok (F_X12_compare (some 175) M) (p_Q p_T t a 1 c M) := by
  refine Ok_w (P_compare J.1) (fun r z => ?_)
  refine ⟨⟨z.1.1, p_F_fl (by decide) z.1.2⟩, z.2.imp id (fun w => ⟨w.1, ?_, w.2.2⟩)⟩
  exact p_J_of (e := 1) J.2 z.1.2.1 (by decide) w.2.1
theorem P_fact_L2 {t a c : Nat} : ∀ (n : Nat) {l1 : Int32} {M : gM}, p_J t a 0 c M → (n_s M - n_x M + (if l1 = 0 then 0 else 1) < n) → Ok (F_X12_fact_L2 n (some 175) l1 M) (p_Q p_T t a 1 c M) := by
  intro n
  induction n with
  | zero => intro l1 M J h; omega
  | succ n ih =>
    intro l1 M J h
    show Ok (F_X12_fact_b2 (F_X12_fact_L2 n) (some 175) l1 M) _
    have H := J.1.1.1.1
    delta F_X12_fact_b2 F_X12_fact_b72
    by_cases c1 : l1 = 0
    · rw [if_pos c1, e_gO H, Option.bind_some]
      refine Ok_b (P_compareJ J) (fun y z => ?_)
      obtain ⟨v2, M3⟩ := y
      refine Ok_t ?_ (Ok_s z)
      rcases z.2 with w | w
      · exact Or.inl w.1
      · exact Or.inr w.1
    rw [if_neg c1] at h
    have hx := J.1.2.1
    have s1 := n_s1 H
    obtain ⟨p, hp⟩ : ∃ p, p = n_sk M (n_x M) := ⟨_, rfl⟩
    have k1 := n_sk_le hx.2
    rw [← hp] at k1
    have J1 : p_J t a 0 c (n_at M p) := p_J_at J (by omega) (by omega)
    have F1 : p_F p_T t M (n_at M p) := p_F_at H (by omega) (by decide)
    have H1 := J1.1.1.1.1
    have x1 : n_x (n_at M p) = p := n_at_x (by omega)
    have s2 : n_s (n_at M p) = n_s M := n_at_s
    have l2 : n_l (n_at M p) t = n_l M t := n_at_l
    have o2 : n_o (n_at M p) = n_o M := n_at_o
    rw [if_neg c1, e_gO H, Option.bind_some, R_see H hx.2, ← hp, Option.bind_some]
    dsimp only
    rw [e_gC H1, Option.bind_some, R_isW2 H hx.2 hp, Option.bind_some]
    dsimp only
    by_cases cw : n_w M p 7237492 = true
    · have hle := n_w_le cw
      have e2 := (n_le_le (M := M) (p := p) (by omega)).2
      rw [if_pos cw, if_neg (by decide), e_gC H1, Option.bind_some]
      refine Ok_b (P_opens (Or.inr rfl) J1 (by omega) (by omega)) (fun y z => ?_)
      obtain ⟨v, M2⟩ := y
      obtain ⟨⟨H2, F2⟩, ⟨h5, g5⟩ | ⟨h5, x5, w5⟩⟩ := z
      · dsimp only at h5 g5 H2 F2 ⊢
        subst h5
        rw [if_pos rfl]
        exact p_Q0 H2 (p_F_tr F1 F2) g5
      · dsimp only at h5 x5 w5 H2 F2 ⊢
        subst h5
        have s3 := n_Fs F2 (by decide)
        have l3 : n_le M2 p = n_le M p := (congrFun (n_fle F2.1 (by decide) (by decide)) p).trans n_at_le
        rw [if_neg (by decide), e_gC H2, Option.bind_some, R_passWord H2 (by omega), Option.bind_some, x5, x1, l3]
        have J5 := w5 (n_le M p) (by omega) (by omega)
        have F5 : p_F p_T t M2 (n_at M2 (n_le M p)) := p_F_at H2 (by omega) (by decide)
        refine p_Qw (p_F_tr F1 (p_F_tr F2 F5)) (by rw [n_at_x (by omega)]; omega) (ih J5 ?_) (by decide)
        rw [n_at_x (by omega), n_at_s, if_neg (by decide)]
        omega
    · rw [if_neg cw, if_pos rfl]
      refine Ok_i (fun e91 => ?_) (fun e91 => ?_)
      · have hlt := n_c_lt e91 (by decide)
        rw [e_gC H1, Option.bind_some]
        refine Ok_b (P_opens (Or.inl rfl) J1 (by omega) (by omega)) (fun y z => ?_)
        obtain ⟨v, M2⟩ := y
        obtain ⟨⟨H2, F2⟩, ⟨h5, g5⟩ | ⟨h5, x5, w5⟩⟩ := z
        · dsimp only at h5 g5 H2 F2 ⊢
          subst h5
          rw [if_pos rfl]
          exact p_Q0 H2 (p_F_tr F1 F2) g5
        · dsimp only at h5 x5 w5 H2 F2 ⊢
          subst h5
          have s3 := n_Fs F2 (by decide)
          rw [if_neg (by decide), e_gI H2, Option.bind_some, e_pI H2, Option.bind_some, n_next H2, x5, x1]
          have J5 := w5 (p + 1) (by omega) (by omega)
          have F5 : p_F p_T t M2 (n_at M2 (p + 1)) := p_F_at H2 (by omega) (by decide)
          refine p_Qw (p_F_tr F1 (p_F_tr F2 F5)) (by rw [n_at_x (by omega)]; omega) (ih J5 ?_) (by decide)
          rw [n_at_x (by omega), n_at_s, if_neg (by decide)]
          omega
      · refine p_Qw F1 (by omega) (ih J1 ?_) (by decide)
        rw [if_pos rfl]
        omega
theorem P_fact {t a c : Nat} {M : gM} (J : p_J t a 0 c M) : Ok (F_X12_fact (some 175) M) (p_Q p_T t a 1 c M) := by
  have s1 := n_s1 J.1.1.1.1
  delta F_X12_fact F_X12_fact_b0
  refine P_fact_L2 _ J ?_
  rw [if_neg (by decide)]
  have : g_fuel = 1000000000 := rfl
  omega
