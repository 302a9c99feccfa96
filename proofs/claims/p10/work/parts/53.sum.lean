/-! term, sum, compare -/
theorem p_see {S t a d c : Nat} {M : gM} (I : p_I t a d c M) (hS : Nat.land (2 ^ 8) S = 2 ^ 8) : p_I t a d c (n_at M (n_sk M (n_x M))) ∧ p_F S t M (n_at M (n_sk M (n_x M))) := by
  have H := I.1.1.1
  have s1 := n_s1 H
  have k1 := n_sk_le I.2.1.2
  exact ⟨p_I_at I (by have := I.2.1; omega) (by omega), p_F_at H (by omega) hS⟩
/-- a sign that isn't NONE stands there -/
theorem n_c_lt {M : gM} {p : Nat} {w : Int32} (h : n_c M p = w) (hw : 0 ≤ w.toInt) : p < n_s M := by
  unfold n_c at h
  by_cases c : p < n_s M
  · exact c
  · rw [if_neg c] at h
    subst h
    exact absurd hw (by decide)
theorem p_next {S t a d c : Nat} {M : gM} (I : p_I t a d c M) (h : n_x M < n_s M) (hS : Nat.land (2 ^ 8) S = 2 ^ 8) : mI M 175 8 (M.2.1 175 8 + (1 : Int32)) = n_at M (n_x M + 1) ∧ p_I t a d (c + 1) (n_at M (n_x M + 1)) ∧ p_F S t M (n_at M (n_x M + 1)) ∧ n_x (n_at M (n_x M + 1)) = n_x M + 1 := by
  have s1 := n_s1 I.1.1.1
  exact ⟨n_next I.1.1.1, p_I_at I (by have := I.2.1; omega) (by omega), p_F_at I.1.1.1 (by omega) hS, n_at_x (by omega)⟩
theorem n_at_c {M : gM} {p q : Nat} : n_c (n_at M p) q = n_c M q := by
  unfold n_c
  rw [n_at_s, n_at_b]
/-- see, seen again -/
theorem R_see2 {M : gM} {p : Nat} (H : y_HT M) (h : n_x M ≤ n_s M) (hp : p = n_sk M (n_x M)) : F_X12_see (some 175) (n_at M p) = some (n_c M p, n_at M p) := by
  subst hp
  have s1 := n_s1 H
  have k1 := n_sk_le h
  rw [R_see (n_atH H (by omega)) (by rw [n_at_x (by omega), n_at_s]; omega), n_at_x (by omega), n_at_sk, n_sk_sk, n_at_c, n_at_at]
theorem n_Fs {S t : Nat} {M M' : gM} (f : p_F S t M M') (h : S.testBit 1 = false) : n_s M' = n_s M := n_fs f.1 h
theorem P_term_b74 {t a d c : Nat} {s : Int32} {M : gM} {k : Option Nat → gM → Option (Int32 × gM)} (hs : s = 4 ∨ s = 5 ∨ s = 14) (hk : ∀ {M1 : gM}, p_I t a (d + 1) c M1 → n_x M < n_x M1 → n_s M1 = n_s M → Ok (k (some 175) M1) (p_P p_E t a (d + 1) c M1)) (I : p_I t a (d + 1) c M) (hx : n_x M < n_s M) : Ok (F_X12_term_b74 k (some 175) s M) (p_P p_E t a (d + 1) c M) := by
  have H := I.1.1.1
  obtain ⟨e1, I1, F1, x1⟩ := p_next (S := p_E) I hx (by decide)
  delta F_X12_term_b74
  rw [e_gI H, Option.bind_some, e_pI H, Option.bind_some, e1]
  generalize n_at M (n_x M + 1) = M1 at I1 F1 x1 ⊢
  have H1 := I1.1.1.1
  rw [e_gO H1, Option.bind_some]
  refine Ok_b (P_value I1) (fun y z => ?_)
  obtain ⟨v4, M5⟩ := y
  obtain ⟨⟨H5, F5⟩, ⟨h5, g5⟩ | ⟨h5, I5, x5⟩⟩ := z
  · dsimp only at h5 g5 H5 F5 ⊢
    subst h5
    rw [if_pos rfl]
    exact p_P0 H5 (p_F_tr F1 F5) g5
  · dsimp only at h5 I5 H5 F5 x5 ⊢
    subst h5
    rw [if_neg (by decide), e_gC H5, Option.bind_some, R_puts H5 I5.1.1.2 I5.1.2 (by have := I5.2.1; have := n_s1 H5; omega), Option.bind_some]
    obtain ⟨I6, F6, x6⟩ := p_puts (S := p_E) (d2 := d + 1) I5 (y_stB (w := s) (by rcases hs with e | e | e <;> subst e <;> decide)) (by have := I5.2.2.2; omega) (by decide)
    have F := p_F_tr F1 (p_F_tr F5 F6)
    exact p_Pw F (by omega) (hk I6 (by omega) (n_Fs F (by decide))) (by decide)
theorem P_term_L9 {t a d c : Nat} : ∀ (n : Nat) {M : gM}, p_I t a (d + 1) c M → n_s M - n_x M < n → Ok (F_X12_term_L9 n (some 175) M) (p_P p_E t a (d + 1) c M) := by
  intro n
  induction n with
  | zero => intro M I h; omega
  | succ n ih =>
    intro M I h
    show Ok (F_X12_term_b9 (F_X12_term_L9 n) (some 175) M) _
    have H := I.1.1.1
    have hx := I.2.1
    have s1 := n_s1 H
    obtain ⟨p, hp⟩ : ∃ p, p = n_sk M (n_x M) := ⟨_, rfl⟩
    have k1 := n_sk_le hx.2
    obtain ⟨I1, F1⟩ := p_see (S := p_E) I (by decide)
    rw [← hp] at I1 F1 k1
    have H1 := I1.1.1.1
    have x1 : n_x (n_at M p) = p := n_at_x (by omega)
    have s2 : n_s (n_at M p) = n_s M := n_at_s
    have go : ∀ {w : Int32}, n_c M p = w → 0 ≤ w.toInt → Ok (F_X12_term_b36 (F_X12_term_L9 n) (some 175) (n_at M p)) (p_P p_E t a (d + 1) c M) := by
      intro w hw hw0
      have hlt := n_c_lt hw hw0
      refine p_Pw (S1 := p_E) F1 (by omega) ?_ (by decide)
      have b74 : ∀ {s : Int32}, s = 4 ∨ s = 5 ∨ s = 14 → Ok (F_X12_term_b74 (F_X12_term_L9 n) (some 175) s (n_at M p)) (p_P p_E t a (d + 1) c (n_at M p)) := fun hs => P_term_b74 hs (fun I2 a1 a2 => ih I2 (by omega)) I1 (by omega)
      have x8 : ((n_at M p).2.1 175 8).toInt = (p : Int) := by
        rw [n_at8]
        exact i_ofNat (by omega)
      delta F_X12_term_b36
      rw [e_gR H1 (w := 176) rfl (by decide), Option.bind_some, e_gI H1, Option.bind_some, e_aI H1 (t := 22) (i := 176) (n := 400) rfl (by decide) (by omega) (by omega), Option.bind_some]
      refine Ok_i (fun _ => b74 (Or.inl rfl)) (fun _ => ?_)
      rw [Option.bind_some, Option.bind_some, e_aI H1 (t := 22) (i := 176) (n := 400) rfl (by decide) (by omega) (by omega), Option.bind_some]
      exact Ok_i (fun _ => b74 (Or.inr (Or.inl rfl))) (fun _ => b74 (Or.inr (Or.inr rfl)))
    delta F_X12_term_b9
    rw [e_gO H, Option.bind_some, R_see H hx.2, ← hp, Option.bind_some]
    dsimp only
    refine Ok_i (fun e => go e (by decide)) (fun _ => ?_)
    rw [e_gC H1, Option.bind_some, R_see2 H hx.2 hp, Option.bind_some]
    dsimp only
    refine Ok_i (fun e => go e (by decide)) (fun _ => ?_)
    rw [e_gC H1, Option.bind_some, R_see2 H hx.2 hp, Option.bind_some]
    dsimp only
    refine Ok_i (fun e => go e (by decide)) (fun _ => ?_)
    exact p_P1 I1 F1 (by omega)
theorem P_term {t a d c : Nat} {M : gM} (I : p_I t a d c M) : Ok (F_X12_term (some 175) M) (p_P p_E t a (d + 1) c M) := by
  have H := I.1.1.1
  delta F_X12_term F_X12_term_b0
  rw [e_gO H, Option.bind_some]
  refine Ok_b (P_value I) (fun y z => ?_)
  obtain ⟨v2, M3⟩ := y
  obtain ⟨⟨H3, F3⟩, ⟨h3, g3⟩ | ⟨h3, I3, x3⟩⟩ := z
  · dsimp only at h3 g3 H3 F3 ⊢
    subst h3
    rw [if_pos rfl]
    exact p_P0 H3 F3 g3
  · dsimp only at h3 I3 H3 F3 x3 ⊢
    subst h3
    rw [if_neg (by decide)]
    have s3 := n_s1 H3
    exact p_Pw F3 x3 (P_term_L9 _ I3 (n_fu (by omega))) (by decide)
theorem P_sum_b46 {t a d c : Nat} {s : Int32} {M : gM} {k : Option Nat → gM → Option (Int32 × gM)} (hs : s = 2 ∨ s = 3) (hk : ∀ {M1 : gM}, p_I t a (d + 1) c M1 → n_x M < n_x M1 → n_s M1 = n_s M → Ok (k (some 175) M1) (p_P p_E t a (d + 1) c M1)) (I : p_I t a (d + 1) c M) (hx : n_x M < n_s M) : Ok (F_X12_sum_b46 k (some 175) s M) (p_P p_E t a (d + 1) c M) := by
  have H := I.1.1.1
  obtain ⟨e1, I1, F1, x1⟩ := p_next (S := p_E) I hx (by decide)
  delta F_X12_sum_b46
  rw [e_gI H, Option.bind_some, e_pI H, Option.bind_some, e1]
  generalize n_at M (n_x M + 1) = M1 at I1 F1 x1 ⊢
  have H1 := I1.1.1.1
  rw [e_gO H1, Option.bind_some]
  refine Ok_b (P_term I1) (fun y z => ?_)
  obtain ⟨v4, M5⟩ := y
  obtain ⟨⟨H5, F5⟩, ⟨h5, g5⟩ | ⟨h5, I5, x5⟩⟩ := z
  · dsimp only at h5 g5 H5 F5 ⊢
    subst h5
    rw [if_pos rfl]
    exact p_P0 H5 (p_F_tr F1 F5) g5
  · dsimp only at h5 I5 H5 F5 x5 ⊢
    subst h5
    rw [if_neg (by decide), e_gC H5, Option.bind_some, R_puts H5 I5.1.1.2 I5.1.2 (by have := I5.2.1; have := n_s1 H5; omega), Option.bind_some]
    obtain ⟨I6, F6, x6⟩ := p_puts (S := p_E) (d2 := d + 1) I5 (y_stB (w := s) (by rcases hs with e | e <;> subst e <;> decide)) (by have := I5.2.2.2; omega) (by decide)
    have F := p_F_tr F1 (p_F_tr F5 F6)
    exact p_Pw F (by omega) (hk I6 (by omega) (n_Fs F (by decide))) (by decide)
theorem P_sum_L9 {t a d c : Nat} : ∀ (n : Nat) {M : gM}, p_I t a (d + 1) c M → n_s M - n_x M < n → Ok (F_X12_sum_L9 n (some 175) M) (p_P p_E t a (d + 1) c M) := by
  intro n
  induction n with
  | zero => intro M I h; omega
  | succ n ih =>
    intro M I h
    show Ok (F_X12_sum_b9 (F_X12_sum_L9 n) (some 175) M) _
    have H := I.1.1.1
    have hx := I.2.1
    have s1 := n_s1 H
    obtain ⟨p, hp⟩ : ∃ p, p = n_sk M (n_x M) := ⟨_, rfl⟩
    have k1 := n_sk_le hx.2
    obtain ⟨I1, F1⟩ := p_see (S := p_E) I (by decide)
    rw [← hp] at I1 F1 k1
    have H1 := I1.1.1.1
    have x1 : n_x (n_at M p) = p := n_at_x (by omega)
    have s2 : n_s (n_at M p) = n_s M := n_at_s
    have go : ∀ {w : Int32}, n_c M p = w → 0 ≤ w.toInt → Ok (F_X12_sum_b27 (F_X12_sum_L9 n) (some 175) (n_at M p)) (p_P p_E t a (d + 1) c M) := by
      intro w hw hw0
      have hlt := n_c_lt hw hw0
      refine p_Pw (S1 := p_E) F1 (by omega) ?_ (by decide)
      have b46 : ∀ {s : Int32}, s = 2 ∨ s = 3 → Ok (F_X12_sum_b46 (F_X12_sum_L9 n) (some 175) s (n_at M p)) (p_P p_E t a (d + 1) c (n_at M p)) := fun hs => P_sum_b46 hs (fun I2 a1 a2 => ih I2 (by omega)) I1 (by omega)
      have x8 : ((n_at M p).2.1 175 8).toInt = (p : Int) := by
        rw [n_at8]
        exact i_ofNat (by omega)
      delta F_X12_sum_b27
      rw [e_gR H1 (w := 176) rfl (by decide), Option.bind_some, e_gI H1, Option.bind_some, e_aI H1 (t := 22) (i := 176) (n := 400) rfl (by decide) (by omega) (by omega), Option.bind_some]
      exact Ok_i (fun _ => b46 (Or.inl rfl)) (fun _ => b46 (Or.inr rfl))
    delta F_X12_sum_b9
    rw [e_gO H, Option.bind_some, R_see H hx.2, ← hp, Option.bind_some]
    dsimp only
    refine Ok_i (fun e => go e (by decide)) (fun _ => ?_)
    rw [e_gC H1, Option.bind_some, R_see2 H hx.2 hp, Option.bind_some]
    dsimp only
    refine Ok_i (fun e => go e (by decide)) (fun _ => ?_)
    exact p_P1 I1 F1 (by omega)
theorem P_sum {t a d c : Nat} {M : gM} (I : p_I t a d c M) : Ok (F_X12_sum (some 175) M) (p_P p_E t a (d + 1) c M) := by
  have H := I.1.1.1
  delta F_X12_sum F_X12_sum_b0
  rw [e_gO H, Option.bind_some]
  refine Ok_b (P_term I) (fun y z => ?_)
  obtain ⟨v2, M3⟩ := y
  obtain ⟨⟨H3, F3⟩, ⟨h3, g3⟩ | ⟨h3, I3, x3⟩⟩ := z
  · dsimp only at h3 g3 H3 F3 ⊢
    subst h3
    rw [if_pos rfl]
    exact p_P0 H3 F3 g3
  · dsimp only at h3 I3 H3 F3 x3 ⊢
    subst h3
    rw [if_neg (by decide)]
    have s3 := n_s1 H3
    exact p_Pw F3 x3 (P_sum_L9 _ I3 (n_fu (by omega))) (by decide)
theorem P_compare_b152 {t a d c : Nat} {s : Int32} {M : gM} (hs : s = 0 ∨ s = 1 ∨ s = 2 ∨ s = 3 ∨ s = 4) (I : p_I t a (d + 1) (c + 1) M) : Ok (F_X12_compare_b152 (some 175) s M) (p_P p_E t a (d + 1) c M) := by
  have H := I.1.1.1
  delta F_X12_compare_b152
  rw [e_gO H, Option.bind_some]
  refine Ok_b (P_sum I) (fun y z => ?_)
  obtain ⟨v2, M3⟩ := y
  obtain ⟨⟨H3, F3⟩, ⟨h3, g3⟩ | ⟨h3, I3, x3⟩⟩ := z
  · dsimp only at h3 g3 H3 F3 ⊢
    subst h3
    rw [if_pos rfl]
    exact p_P0 H3 F3 g3
  · dsimp only at h3 I3 H3 F3 x3 ⊢
    subst h3
    rw [if_neg (by decide), e_gC H3, Option.bind_some, R_puts H3 I3.1.1.2 I3.1.2 (by have := I3.2.1; have := n_s1 H3; omega), Option.bind_some]
    obtain ⟨I6, F6, x6⟩ := p_puts (S := p_E) (d2 := d + 1) I3 (y_stB (w := (6 : Int32) + s) (by rcases hs with e | e | e | e | e <;> subst e <;> decide)) (by have := I3.2.2.2; omega) (by decide)
    exact p_P1 I6 (p_F_tr F3 F6) (by omega)
theorem P_compare_b105 {t a d c q : Nat} {l1 l2 l3 : Int32} {M : gM} (hl : l2.toInt = (q : Int)) (hq : q ≤ 400) (I : p_I t a (d + 1) (c + 1) M) : Ok (F_X12_compare_b105 (some 175) l1 l2 l3 M) (p_P p_E t a (d + 1) c M) := by
  have H := I.1.1.1
  delta F_X12_compare_b105
  rw [e_gO H, Option.bind_some, R_makes H, Option.bind_some]
  by_cases cM : n_m M = 60
  · rw [if_pos cM]
    dsimp only
    rw [if_pos rfl]
    exact p_Pf H p_F_rf (by decide) hl hq (by decide)
  · rw [if_neg cM]
    dsimp only
    rw [if_neg (by decide)]
    obtain ⟨⟨H3, f3⟩, m3⟩ := n_mk_set H cM
    have x3 := n_fx f3 (by decide)
    have I3 : p_I t a (d + 1) (c + 1) (n_mk M) := p_I_of I H3 f3 (by decide) ⟨by rw [x3]; exact I.2.1.1, by rw [x3]; exact I.2.1.2⟩ (by omega)
    have F3 : p_F p_E t M (n_mk M) := p_F_of f3 (by decide) (by decide) (by decide)
    refine p_Pw (S1 := p_E) F3 (by omega) ?_ (by decide)
    refine Ok_i (fun _ => Ok_i (fun _ => ?_) (fun _ => ?_)) (fun _ => Ok_i (fun _ => ?_) (fun _ => Ok_i (fun _ => ?_) (fun _ => ?_)))
    · exact P_compare_b152 (by decide) I3
    · exact P_compare_b152 (by decide) I3
    · exact P_compare_b152 (by decide) I3
    · exact P_compare_b152 (by decide) I3
    · exact P_compare_b152 (by decide) I3
theorem P_compare_b44 {t a d c : Nat} {l1 l2 : Int32} {M : gM} (hl : l2.toInt = (n_x M : Int)) (hlt : n_x M < n_s M) (I : p_I t a (d + 1) c M) : Ok (F_X12_compare_b44 (some 175) l1 l2 M) (p_P p_E t a (d + 1) c M) := by
  have H := I.1.1.1
  have s1 := n_s1 H
  obtain ⟨e1, I1, F1, x1⟩ := p_next (S := p_E) I hlt (by decide)
  have es : n_s (n_at M (n_x M + 1)) = n_s M := n_at_s
  delta F_X12_compare_b44 F_X12_compare_b89 F_X12_compare_b90
  rw [e_gI H, Option.bind_some, e_pI H, Option.bind_some, e1]
  generalize n_at M (n_x M + 1) = M1 at I1 F1 x1 es ⊢
  have H1 := I1.1.1.1
  have s2 := n_s1 H1
  have y1 := n_x1 H1
  refine p_Pw (S1 := p_E) F1 (by omega) ?_ (by decide)
  have b0 : Ok (if (0 : Int32) = 0 then F_X12_compare_b105 (some 175) l1 l2 (0 : Int32) M1 else (gI 12 M1 (some 175) 8).bind fun v1 => (pI 12 M1 (some 175) 8 (v1 + (1 : Int32))).bind fun M2 => F_X12_compare_b105 (some 175) l1 l2 (0 : Int32) M2) (p_P p_E t a (d + 1) c M1) := by
    rw [if_pos rfl]
    exact P_compare_b105 hl (by omega) I1
  refine Ok_i (fun _ => b0) (fun _ => ?_)
  rw [e_gI H1, Option.bind_some, e_gI H1, Option.bind_some]
  refine Ok_i (fun _ => b0) (fun c2 => ?_)
  have c2' := i_nle c2
  rw [e_gR H1 (w := 176) rfl (by decide), Option.bind_some, Option.bind_some, e_aI H1 (t := 22) (i := 176) (n := 400) rfl (by decide) (by omega) (by omega), Option.bind_some]
  refine Ok_i (fun _ => ?_) (fun _ => b0)
  obtain ⟨e2, I2, F2, x2⟩ := p_next (S := p_E) I1 (by omega) (by decide)
  rw [if_neg (by decide), Option.bind_some, e_pI H1, Option.bind_some, e2]
  refine p_Pw (S1 := p_E) F2 (by omega) ?_ (by decide)
  refine P_compare_b105 hl (by omega) (p_I_of I2 I2.1.1.1 (y_rf0 0 _) (by decide) ⟨?_, I2.2.1.2⟩ (Nat.le_refl _))
  have := I2.2.1.1
  omega
theorem P_compare {t a d c : Nat} {M : gM} (I : p_I t a d c M) : Ok (F_X12_compare (some 175) M) (p_P p_E t a (d + 1) c M) := by
  have H := I.1.1.1
  delta F_X12_compare F_X12_compare_b0
  rw [e_gO H, Option.bind_some]
  refine Ok_b (P_sum I) (fun y z => ?_)
  obtain ⟨v2, M3⟩ := y
  obtain ⟨⟨H3, F3⟩, ⟨h3, g3⟩ | ⟨h3, I3, x3⟩⟩ := z
  · dsimp only at h3 g3 H3 F3 ⊢
    subst h3
    rw [if_pos rfl]
    exact p_P0 H3 F3 g3
  dsimp only at h3 I3 H3 F3 x3 ⊢
  subst h3
  have s3 := n_s1 H3
  have hx := I3.2.1
  obtain ⟨p, hp⟩ : ∃ p, p = n_sk M3 (n_x M3) := ⟨_, rfl⟩
  have k1 := n_sk_le hx.2
  obtain ⟨I6, F6⟩ := p_see (S := p_E) I3 (by decide)
  rw [← hp] at I6 F6 k1
  have H6 := I6.1.1.1
  have x6 : n_x (n_at M3 p) = p := n_at_x (by omega)
  have s6 : n_s (n_at M3 p) = n_s M3 := n_at_s
  have v7 : (n_at M3 p).2.1 175 8 = Int32.ofNat p := n_at8
  have xi : (Int32.ofNat p).toInt = (p : Int) := i_ofNat (by omega)
  rw [if_neg (by decide), e_gC H3, Option.bind_some, R_see H3 hx.2, ← hp, Option.bind_some]
  dsimp only
  rw [e_gI H6, Option.bind_some, v7]
  have go : ∀ {w : Int32}, n_c M3 p = w → 0 ≤ w.toInt → Ok (F_X12_compare_b44 (some 175) (n_c M3 p) (Int32.ofNat p) (n_at M3 p)) (p_P p_E t a (d + 1) c M) := by
    intro w hw hw0
    have hlt := n_c_lt hw hw0
    exact p_Pw (p_F_tr F3 F6) (by omega) (P_compare_b44 (by rw [x6]; exact xi) (by omega) I6) (by decide)
  refine Ok_i (fun e => go e (by decide)) (fun _ => Ok_i (fun e => go e (by decide)) (fun _ => Ok_i (fun e => go e (by decide)) (fun _ => ?_)))
  rw [e_gC H6, Option.bind_some, R_fails H6, Option.bind_some]
  dsimp only
  rw [if_pos (Or.inl rfl)]
  exact p_Pf H6 (p_F_tr F3 F6) (by decide) xi (by omega) (by decide)
