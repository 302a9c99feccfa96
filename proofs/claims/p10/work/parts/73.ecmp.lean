/-! the reference reads as the document says: SUMS and COMPARES -/
theorem E_sum_b46 {T : gM} (B : z_B T) {t a d c N : Nat} {s : Int32} {M : gM} {x : sS} {k : Option Nat → gM → Option (Int32 × gM)} (hs : (s = 2 ∧ k_kind T x.1 = 43) ∨ (s = 3 ∧ k_kind T x.1 = 45)) (hq : k_go T x.1 = n_sk T (x.1 + 1)) (hk : ∀ {M1 : gM} {y : sS}, p_I t a (d + 1) c M1 → r_X T t M1 y → n_x M < n_x M1 → n_s M1 = n_s M → Ok (k (some 175) M1) (e_R T t (s_loop T 2 (s_term T) N y))) (I : p_I t a (d + 1) c M) (X : r_X T t M x) (xx : n_x M = x.1) (hx : n_x M < n_s M) : Ok (F_X12_sum_b46 k (some 175) s M) (e_R T t (s_loop T 2 (s_term T) (N + 1) x)) := by
  have H := I.1.1.1
  have s1 := n_s1 H
  obtain ⟨e1, I1, F1, x1⟩ := p_next (S := p_E) I hx (by decide)
  have X1 := r_Xnext X xx (by omega) (by rw [xx]; exact hq)
  have j1 : ¬ s_jo 2 (k_kind T x.1) = 0 := by rcases hs with ⟨_, e⟩ | ⟨_, e⟩ <;> (rw [e]; decide)
  have j2 : s = e_r (s_jo 2 (k_kind T x.1), 0) := by rcases hs with ⟨e0, e⟩ | ⟨e0, e⟩ <;> (rw [e0, e]; decide)
  have hB : s = 2 ∨ s = 3 := hs.imp And.left And.left
  show Ok _ (e_R T t (if s_jo 2 (k_kind T x.1) = 0 then _ else _))
  rw [if_neg j1]
  delta F_X12_sum_b46
  rw [e_gI H, Option.bind_some, e_pI H, Option.bind_some, e1]
  generalize n_at M (n_x M + 1) = M1 at I1 F1 x1 X1 ⊢
  have H1 := I1.1.1.1
  rw [e_gO H1, Option.bind_some]
  refine Ok_b (Ok_and (P_term I1) (E_term B I1 X1)) (fun y z => ?_)
  obtain ⟨v4, M5⟩ := y
  obtain ⟨⟨⟨H5, F5⟩, P⟩, E⟩ := z
  dsimp only at P E H5 F5 ⊢
  generalize s_term T (k_go T x.1, x.2) = r at E ⊢
  cases r with
  | inl e =>
    obtain ⟨h5, g5⟩ := E
    dsimp only at h5 g5
    subst h5
    rw [if_pos rfl]
    exact Ok_s ⟨rfl, g5⟩
  | inr y =>
    obtain ⟨h5, X5⟩ := E
    dsimp only at h5 X5
    subst h5
    rcases P with ⟨h5, _⟩ | ⟨_, I5, x5⟩
    · exact absurd h5 (by decide)
    rw [if_neg (by decide), e_gC H5, Option.bind_some, R_puts H5 I5.1.1.2 I5.1.2 (by have := I5.2.1; have := n_s1 H5; omega), Option.bind_some]
    obtain ⟨I6, F6, x6⟩ := p_puts (S := p_E) (d2 := d + 1) I5 (y_stB (w := s) (by rcases hB with e | e <;> subst e <;> decide)) (by have := I5.2.2.2; omega) (by decide)
    have F := p_F_tr F1 (p_F_tr F5 F6)
    have X6 := r_Xput X5 H5 (by have := I5.2.1; have := n_s1 H5; omega) (w := s + (16 : Int32) * (0 : Int32)) (a := (s_jo 2 (k_kind T x.1), 0)) (by rw [← j2]; rcases hB with e | e <;> (subst e; rfl))
    exact hk I6 X6 (by omega) (n_Fs F (by decide))
theorem E_sum_L9 {T : gM} (B : z_B T) {t a d c : Nat} : ∀ (n N : Nat) {M : gM} {x : sS}, p_I t a (d + 1) c M → r_X T t M x → n_s M - n_x M < n → n_s M - n_x M < N → Ok (F_X12_sum_L9 n (some 175) M) (e_R T t (s_loop T 2 (s_term T) N x)) := by
  intro n
  induction n with
  | zero => intro N M x I X h hN; omega
  | succ n ih =>
    intro N M x I X h hN
    obtain ⟨N, rfl⟩ : ∃ N', N = N' + 1 := ⟨N - 1, by omega⟩
    show Ok (F_X12_sum_b9 (F_X12_sum_L9 n) (some 175) M) _
    have H := I.1.1.1
    have hx := I.2.1
    have s1 := n_s1 H
    obtain ⟨p, hp⟩ : ∃ p, p = n_sk M (n_x M) := ⟨_, rfl⟩
    have k1 := n_sk_le hx.2
    obtain ⟨I1, F1⟩ := p_see (S := p_E) I (by decide)
    obtain ⟨ex, X1⟩ := r_Xsee X H hx.2
    have px : p = x.1 := hp.trans ex
    rw [← hp] at I1 F1 k1
    rw [← px] at X1
    have H1 := I1.1.1.1
    have x1 : n_x (n_at M p) = p := n_at_x (by omega)
    have s2 : n_s (n_at M p) = n_s M := n_at_s
    have ec : n_c M p = n_c T p := congrFun (n_T X.1.1 X.1.2).2.2.1.2 p
    have go : ∀ {w : Int32} {m : Nat}, n_c M p = w → w.toInt = (m : Int) → (m = 43 ∨ m = 45) → Ok (F_X12_sum_b27 (F_X12_sum_L9 n) (some 175) (n_at M p)) (e_R T t (s_loop T 2 (s_term T) (N + 1) x)) := by
      intro w m hw hm hm2
      have hlt := n_c_lt hw (by omega)
      rw [ec] at hw
      have kk := k_s1 (T := T) (p := p) hm (by omega) (by omega) (by omega) (by omega)
      have kb : n_b T p = w := ((n_ca_b B hm (by omega)).mp (k_sg hw hm (by omega) (by omega)).1.2).2
      have kd := kk.1.mp hw
      have b74 : ∀ {s : Int32}, ((s = 2 ∧ m = 43) ∨ (s = 3 ∧ m = 45)) → Ok (F_X12_sum_b46 (F_X12_sum_L9 n) (some 175) s (n_at M p)) (e_R T t (s_loop T 2 (s_term T) (N + 1) x)) := fun hs => E_sum_b46 B (hs.imp (fun z => ⟨z.1, by rw [← px, kd, z.2]; rfl⟩) (fun z => ⟨z.1, by rw [← px, kd, z.2]; rfl⟩)) (by rw [← px]; exact kk.2 hw) (fun I2 X2 a1 a2 => ih N I2 X2 (by omega) (by omega)) I1 X1 (by rw [x1]; exact px) (by omega)
      have x8 : ((n_at M p).2.1 175 8).toInt = (p : Int) := by
        rw [n_at8]
        exact i_ofNat (by omega)
      have vb : (n_at M p).2.1 176 p = w := by
        rw [← kb]
        exact (congrFun n_at_b p).trans (congrFun X.1.1 p)
      delta F_X12_sum_b27
      rw [e_gR H1 (w := 176) rfl (by decide), Option.bind_some, e_gI H1, Option.bind_some, e_aI H1 (t := 22) (i := 176) (n := 400) rfl (by decide) (by omega) (by omega), Option.bind_some, i_cl x8, vb]
      have z42 : (43 : Int32).toInt = 43 := rfl
      refine Ok_i (fun e => b74 (Or.inl ⟨rfl, by rw [e] at hm; omega⟩)) (fun e => b74 (Or.inr ⟨rfl, ?_⟩))
      have e42 : m ≠ 43 := fun z => e (Int32.toInt_inj.mp (by omega))
      omega
    delta F_X12_sum_b9
    rw [e_gO H, Option.bind_some, R_see H hx.2, ← hp, Option.bind_some]
    dsimp only
    refine Ok_i (fun e => go e rfl (Or.inl rfl)) (fun n1 => ?_)
    rw [e_gC H1, Option.bind_some, R_see2 H hx.2 hp, Option.bind_some]
    dsimp only
    refine Ok_i (fun e => go e rfl (Or.inr rfl)) (fun n2 => ?_)
    rw [ec] at n1 n2
    have m1 := mt (k_s1 (T := T) (p := p) (c := (43 : Int32)) (n := 43) rfl (by omega) (by omega) (by omega) (by omega)).1.mpr n1
    have m2 := mt (k_s1 (T := T) (p := p) (c := (45 : Int32)) (n := 45) rfl (by omega) (by omega) (by omega) (by omega)).1.mpr n2
    show Ok _ (e_R T t (if s_jo 2 (k_kind T x.1) = 0 then _ else _))
    rw [if_pos (s_jo2 (by rw [← px]; exact m1) (by rw [← px]; exact m2))]
    exact Ok_s ⟨rfl, X1⟩
theorem E_sum {T : gM} (B : z_B T) {t a d c : Nat} {M : gM} {x : sS} (I : p_I t a d c M) (X : r_X T t M x) : Ok (F_X12_sum (some 175) M) (e_R T t (s_sum T x)) := by
  have H := I.1.1.1
  delta F_X12_sum F_X12_sum_b0
  rw [e_gO H, Option.bind_some]
  show Ok _ (e_R T t (s_b (s_term T x) _))
  refine Ok_b (Ok_and (P_term I) (E_term B I X)) (fun y z => ?_)
  obtain ⟨v2, M3⟩ := y
  obtain ⟨⟨⟨H3, F3⟩, P⟩, E⟩ := z
  dsimp only at P E H3 F3 ⊢
  generalize s_term T x = r at E ⊢
  cases r with
  | inl e =>
    obtain ⟨h3, g3⟩ := E
    dsimp only at h3 g3
    subst h3
    rw [if_pos rfl]
    exact Ok_s ⟨rfl, g3⟩
  | inr y =>
    obtain ⟨h3, X3⟩ := E
    dsimp only at h3 X3
    subst h3
    rcases P with ⟨h3, _⟩ | ⟨_, I3, x3⟩
    · exact absurd h3 (by decide)
    rw [if_neg (by decide)]
    have s3 := n_s1 H3
    exact E_sum_L9 B _ _ I3 X3 (n_fu (by omega)) (by omega)
theorem E_cmp_b152 {T : gM} (B : z_B T) {t a d c : Nat} {s : Int32} {M : gM} {y : sS} {m : Nat} (hs : (s = 0 ∧ m = 7) ∨ (s = 1 ∧ m = 8) ∨ (s = 2 ∧ m = 9) ∨ (s = 3 ∧ m = 10) ∨ (s = 4 ∧ m = 11)) (I : p_I t a (d + 1) (c + 1) M) (X : r_X T t M y) : Ok (F_X12_compare_b152 (some 175) s M) (e_R T t (s_b (s_sum T y) (fun z => .inr (s_push z (m, 0))))) := by
  have H := I.1.1.1
  have e6 : (6 : Int32) + s + (16 : Int32) * (0 : Int32) = e_r (m, 0) := by rcases hs with ⟨e0, e⟩ | ⟨e0, e⟩ | ⟨e0, e⟩ | ⟨e0, e⟩ | ⟨e0, e⟩ <;> (rw [e, e0]; decide)
  delta F_X12_compare_b152
  rw [e_gO H, Option.bind_some]
  refine Ok_b (Ok_and (P_sum I) (E_sum B I X)) (fun y2 z => ?_)
  obtain ⟨v2, M3⟩ := y2
  obtain ⟨⟨⟨H3, F3⟩, P⟩, E⟩ := z
  dsimp only at P E H3 F3 ⊢
  generalize s_sum T y = r at E ⊢
  cases r with
  | inl e =>
    obtain ⟨h3, g3⟩ := E
    dsimp only at h3 g3
    subst h3
    rw [if_pos rfl]
    exact Ok_s ⟨rfl, g3⟩
  | inr y =>
    obtain ⟨h3, X3⟩ := E
    dsimp only at h3 X3
    subst h3
    rcases P with ⟨h3, _⟩ | ⟨_, I3, x3⟩
    · exact absurd h3 (by decide)
    rw [if_neg (by decide), e_gC H3, Option.bind_some, R_puts H3 I3.1.1.2 I3.1.2 (by have := I3.2.1; have := n_s1 H3; omega), Option.bind_some]
    exact Ok_s ⟨rfl, r_Xput X3 H3 (by have := I3.2.1; have := n_s1 H3; omega) e6⟩
/-- which COMPARE: of the sign and whether a = stands behind -/
def e_co (l1 l3 : Int32) : Nat := if l1 = 60 then (if l3 = 0 then 7 else 8) else if l1 = 61 then 9 else if l3 = 0 then 11 else 10
theorem E_cmp_b105 {T : gM} (B : z_B T) {t a d c q : Nat} {l1 l2 l3 : Int32} {M : gM} {y : sS} (hl : l2.toInt = (q : Int)) (hq : q ≤ 400) (I : p_I t a (d + 1) (c + 1) M) (X : r_X T t M y) : Ok (F_X12_compare_b105 (some 175) l1 l2 l3 M) (e_R T t (if y.2.1 = 60 then .inl (1 + 8 * q + 3) else s_b (s_sum T (y.1, y.2.1 + 1, y.2.2)) (fun z => .inr (s_push z (e_co l1 l3, 0))))) := by
  have H := I.1.1.1
  have em : n_m M = y.2.1 := X.2.2.1.2
  delta F_X12_compare_b105
  rw [e_gO H, Option.bind_some, R_makes H, Option.bind_some]
  by_cases cM : y.2.1 = 60
  · rw [if_pos (show n_m M = 60 from em.trans cM), if_pos cM]
    dsimp only
    rw [if_pos rfl]
    exact Ok_s ⟨rfl, n_f_0 X.2.2.1.1 hl hq rfl (by decide)⟩
  · have cM' : ¬ n_m M = 60 := by rw [em]; exact cM
    rw [if_neg cM', if_neg cM]
    dsimp only
    rw [if_neg (by decide)]
    obtain ⟨⟨H3, f3⟩, m3⟩ := n_mk_set H cM'
    have X3 := r_Xmk X H cM'
    have x3 := n_fx f3 (by decide)
    have I3 : p_I t a (d + 1) (c + 1) (n_mk M) := p_I_of I H3 f3 (by decide) ⟨by rw [x3]; exact I.2.1.1, by rw [x3]; exact I.2.1.2⟩ (by omega)
    unfold e_co
    by_cases c1 : l1 = 60
    · rw [if_pos c1, if_pos c1]
      by_cases c3 : l3 = 0
      · rw [if_pos c3, if_pos c3]
        exact E_cmp_b152 B (Or.inl ⟨rfl, rfl⟩) I3 X3
      · rw [if_neg c3, if_neg c3]
        exact E_cmp_b152 B (Or.inr (Or.inl ⟨rfl, rfl⟩)) I3 X3
    · rw [if_neg c1, if_neg c1]
      by_cases c2 : l1 = 61
      · rw [if_pos c2, if_pos c2]
        exact E_cmp_b152 B (Or.inr (Or.inr (Or.inl ⟨rfl, rfl⟩))) I3 X3
      · rw [if_neg c2, if_neg c2]
        by_cases c3 : l3 = 0
        · rw [if_pos c3, if_pos c3]
          exact E_cmp_b152 B (Or.inr (Or.inr (Or.inr (Or.inr ⟨rfl, rfl⟩)))) I3 X3
        · rw [if_neg c3, if_neg c3]
          exact E_cmp_b152 B (Or.inr (Or.inr (Or.inr (Or.inl ⟨rfl, rfl⟩)))) I3 X3
/-- which sign of COMPARE stands there -/
theorem k_cmp {T : gM} (B : z_B T) {p m : Nat} {w : Int32} (hw : n_c T p = w) (hm : w.toInt = (m : Int)) (hm2 : m = 60 ∨ m = 61 ∨ m = 62) : ((w ≠ 61 ∧ p + 1 < n_s T ∧ n_b T (p + 1) = 61) → s_co (k_kind T p) = e_co w 1 ∧ k_go T p = n_sk T (p + 2)) ∧ (¬ (w ≠ 61 ∧ p + 1 < n_s T ∧ n_b T (p + 1) = 61) → s_co (k_kind T p) = e_co w 0 ∧ k_go T p = n_sk T (p + 1)) := by
  obtain ⟨⟨a1, a2⟩, a3, a4⟩ := k_sg hw hm (by omega) (by omega)
  have z61 : (61 : Int32).toInt = 61 := rfl
  have z60 : (60 : Int32).toInt = 60 := rfl
  have z62 : (62 : Int32).toInt = 62 := rfl
  have hw3 : w = 60 ∨ w = 61 ∨ w = 62 := by
    rcases hm2 with e | e | e
    · exact Or.inl (Int32.toInt_inj.mp (by omega))
    · exact Or.inr (Or.inl (Int32.toInt_inj.mp (by omega)))
    · exact Or.inr (Or.inr (Int32.toInt_inj.mp (by omega)))
  have two : k_two T p = true ↔ (w ≠ 61 ∧ p + 1 < n_s T ∧ n_b T (p + 1) = 61) := by
    unfold k_two
    rw [decide_eq_true_iff, a2, n_ca_b B (q := p + 1) (n := 61) rfl (by omega)]
    refine and_congr ?_ Iff.rfl
    rcases hw3 with e | e | e <;> (rw [e]; decide)
  have kk : k_kind T p = (if k_two T p = true then (if w = 60 then 258 else 259) else w.toInt) := by
    unfold k_kind
    rw [if_neg (by omega), if_neg a3, if_neg a4, a2]
  have gg : k_go T p = n_sk T (if k_two T p = true then p + 2 else p + 1) := by
    unfold k_go k_nx k_end
    rw [if_pos a1, if_neg a3, if_neg a4]
  refine ⟨fun h => ?_, fun h => ?_⟩
  · have h2 := two.mpr h
    rw [kk, gg, if_pos h2, if_pos h2]
    refine ⟨?_, rfl⟩
    rcases hw3 with e | e | e
    · rw [e]; rfl
    · exact absurd e h.1
    · rw [e]; rfl
  · have h2 := mt two.mp h
    rw [kk, gg, if_neg h2, if_neg h2]
    refine ⟨?_, rfl⟩
    rcases hw3 with e | e | e <;> (rw [e]; rfl)
theorem k_ncmp {T : gM} {p : Nat} (B : z_B T) (h1 : n_c T p ≠ 60) (h2 : n_c T p ≠ 61) (h3 : n_c T p ≠ 62) : s_co (k_kind T p) = 0 := by
  unfold k_kind
  by_cases c0 : n_s T ≤ p
  · rw [if_pos c0]; rfl
  rw [if_neg c0]
  by_cases cL : n_L T p = true
  · rw [if_pos cL]
    have := k_w_r (T := T) (p := p)
    unfold s_co
    rw [if_neg (by omega), if_neg (by omega), if_neg (by omega), if_neg (by omega), if_neg (by omega)]
  rw [if_neg cL]
  by_cases cD : n_D T p = true
  · rw [if_pos cD]; rfl
  rw [if_neg cD]
  have e : n_ca T p = n_c T p := by
    unfold n_ca n_c
    rw [if_pos (show p < n_s T by omega), if_pos (show p < n_s T by omega)]
  by_cases c2 : k_two T p = true
  · have := (of_decide_eq_true c2).1
    rw [e] at this
    rcases this with z | z
    · exact absurd z h1
    · exact absurd z h3
  rw [if_neg c2, e]
  have r1 := n_ca_r B (q := p) (by omega)
  rw [e] at r1
  have b1 := B.1 p
  have q1 : (n_c T p).toInt ≠ 60 := fun z => h1 (Int32.toInt_inj.mp z)
  have q2 : (n_c T p).toInt ≠ 61 := fun z => h2 (Int32.toInt_inj.mp z)
  have q3 : (n_c T p).toInt ≠ 62 := fun z => h3 (Int32.toInt_inj.mp z)
  have q4 : (n_c T p).toInt ≤ 255 := by
    rw [r1]
    split <;> omega
  unfold s_co
  rw [if_neg q1, if_neg q2, if_neg q3, if_neg (by omega), if_neg (by omega)]
theorem e_co_n {w l : Int32} : e_co w l ≠ 0 := by
  unfold e_co
  split
  · split <;> decide
  · split
    · decide
    · split <;> decide
theorem E_cmp_b44 {T : gM} (B : z_B T) {t a d c m : Nat} {l1 l2 : Int32} {M : gM} {y : sS} (hw : n_c T y.1 = l1) (hm : l1.toInt = (m : Int)) (hm2 : m = 60 ∨ m = 61 ∨ m = 62) (hl : l2.toInt = (n_x M : Int)) (hlt : n_x M < n_s M) (I : p_I t a (d + 1) c M) (X : r_X T t M y) (xx : n_x M = y.1) : Ok (F_X12_compare_b44 (some 175) l1 l2 M) (e_R T t (s_cmp2 T y)) := by
  have H := I.1.1.1
  have s1 := n_s1 H
  obtain ⟨e1, I1, F1, x1⟩ := p_next (S := p_E) I hlt (by decide)
  have es : n_s (n_at M (n_x M + 1)) = n_s M := n_at_s
  have kc := k_cmp B hw hm hm2
  have sT : n_s M = n_s T := X.1.2
  have X0 : k_go T y.1 = n_sk T (y.1 + 1) → r_X T t (n_at M (n_x M + 1)) (k_go T y.1, y.2) := fun h => r_Xnext X xx (by omega) (by rw [xx]; exact h)
  have b1 : (n_at M (n_x M + 1)).2.1 176 (n_x M + 1) = n_b T (y.1 + 1) := by
    rw [← xx]
    exact (congrFun n_at_b _).trans (congrFun X.1.1 _)
  have fin : ∀ {l3 : Int32} {k : Nat} {M1 : gM}, s_co (k_kind T y.1) = e_co l1 l3 → p_I t a (d + 1) (c + 1) M1 → r_X T t M1 (k_go T y.1, y.2) → Ok (F_X12_compare_b105 (some 175) l1 l2 l3 M1) (e_R T t (s_cmp2 T y)) := by
    intro l3 k M1 h1 I1 X1
    have := E_cmp_b105 (l1 := l1) (l3 := l3) B hl (by omega) I1 X1
    unfold s_cmp2
    rw [if_neg (by rw [h1]; exact e_co_n), h1, ← xx]
    rw [← xx] at this
    exact this
  delta F_X12_compare_b44 F_X12_compare_b89 F_X12_compare_b90
  rw [e_gI H, Option.bind_some, e_pI H, Option.bind_some, e1]
  have xr : (n_at M (n_x M + 1)).2.1 175 8 = Int32.ofNat (n_x M + 1) := n_at8
  have xi : (Int32.ofNat (n_x M + 1)).toInt = ((n_x M + 1 : Nat) : Int) := i_ofNat (by omega)
  have X2 : n_x M + 2 ≤ 400 → k_go T y.1 = n_sk T (y.1 + 2) → r_X T t (n_at (n_at M (n_x M + 1)) (n_x (n_at M (n_x M + 1)) + 1)) (k_go T y.1, y.2) := by
    intro h0 h
    rw [x1, n_at_at]
    exact r_Xat X (by omega) (by rw [xx]; exact h.symm)
  generalize n_at M (n_x M + 1) = M1 at I1 F1 x1 es X0 X2 b1 xr ⊢
  have H1 := I1.1.1.1
  have s2 := n_s1 H1
  have y1 := n_x1 H1
  by_cases c1 : l1 = 61
  · rw [if_pos c1, if_pos rfl]
    have k2 := kc.2 (fun z => z.1 c1)
    exact fin (k := 0) k2.1 I1 (X0 k2.2)
  rw [if_neg c1, e_gI H1, Option.bind_some, e_gI H1, Option.bind_some]
  refine Ok_i (fun c2 => ?_) (fun c2 => ?_)
  · rw [if_pos rfl]
    have := i_le c2
    have k2 := kc.2 (fun z => by omega)
    exact fin (k := 0) k2.1 I1 (X0 k2.2)
  have c2' := i_nle c2
  rw [e_gR H1 (w := 176) rfl (by decide), Option.bind_some, Option.bind_some, e_aI H1 (t := 22) (i := 176) (n := 400) rfl (by decide) (by omega) (by omega), Option.bind_some, xr, i_cl xi, b1]
  refine Ok_i (fun c3 => ?_) (fun c3 => ?_)
  · have k2 := kc.1 ⟨c1, by omega, c3⟩
    obtain ⟨e2, I2, F2, x2⟩ := p_next (S := p_E) I1 (by omega) (by decide)
    rw [xr] at e2
    rw [if_neg (by decide), Option.bind_some, e_pI H1, Option.bind_some, e2]
    refine fin (k := 0) k2.1 (p_I_of I2 I2.1.1.1 (y_rf0 0 _) (by decide) ⟨?_, I2.2.1.2⟩ (Nat.le_refl _)) (X2 (by omega) k2.2)
    have := I2.2.1.1
    omega
  · rw [if_pos rfl]
    have k2 := kc.2 (fun z => c3 z.2.2)
    exact fin (k := 0) k2.1 I1 (X0 k2.2)
theorem E_cmp {T : gM} (B : z_B T) {t a d c : Nat} {M : gM} {x : sS} (I : p_I t a d c M) (X : r_X T t M x) : Ok (F_X12_compare (some 175) M) (e_R T t (s_cmp T x)) := by
  have H := I.1.1.1
  delta F_X12_compare F_X12_compare_b0
  rw [e_gO H, Option.bind_some]
  show Ok _ (e_R T t (s_b (s_sum T x) (s_cmp2 T)))
  refine Ok_b (Ok_and (P_sum I) (E_sum B I X)) (fun y z => ?_)
  obtain ⟨v2, M3⟩ := y
  obtain ⟨⟨⟨H3, F3⟩, P⟩, E⟩ := z
  dsimp only at P E H3 F3 ⊢
  generalize s_sum T x = r at E ⊢
  cases r with
  | inl e =>
    obtain ⟨h3, g3⟩ := E
    dsimp only at h3 g3
    subst h3
    rw [if_pos rfl]
    exact Ok_s ⟨rfl, g3⟩
  | inr y =>
  obtain ⟨h3, X3⟩ := E
  dsimp only at h3 X3
  subst h3
  rcases P with ⟨h3, _⟩ | ⟨_, I3, x3⟩
  · exact absurd h3 (by decide)
  have s3 := n_s1 H3
  have hx := I3.2.1
  obtain ⟨p, hp⟩ : ∃ p, p = n_sk M3 (n_x M3) := ⟨_, rfl⟩
  have k1 := n_sk_le hx.2
  obtain ⟨I6, F6⟩ := p_see (S := p_E) I3 (by decide)
  obtain ⟨ex, X6⟩ := r_Xsee X3 H3 hx.2
  have px : p = y.1 := hp.trans ex
  rw [← hp] at I6 F6 k1
  rw [← px] at X6
  have H6 := I6.1.1.1
  have x6 : n_x (n_at M3 p) = p := n_at_x (by omega)
  have s6 : n_s (n_at M3 p) = n_s M3 := n_at_s
  have v7 : (n_at M3 p).2.1 175 8 = Int32.ofNat p := n_at8
  have xi : (Int32.ofNat p).toInt = (p : Int) := i_ofNat (by omega)
  have ec : n_c M3 p = n_c T p := congrFun (n_T X3.1.1 X3.1.2).2.2.1.2 p
  rw [if_neg (by decide), e_gC H3, Option.bind_some, R_see H3 hx.2, ← hp, Option.bind_some]
  dsimp only
  rw [e_gI H6, Option.bind_some, v7]
  have go : ∀ {w : Int32} {m : Nat}, n_c M3 p = w → w.toInt = (m : Int) → (m = 60 ∨ m = 61 ∨ m = 62) → Ok (F_X12_compare_b44 (some 175) (n_c M3 p) (Int32.ofNat p) (n_at M3 p)) (e_R T t (s_cmp2 T y)) := by
    intro w m hw hm hm2
    have hlt := n_c_lt hw (by omega)
    exact E_cmp_b44 B (by rw [← px]; exact ec.symm) (by rw [hw]; exact hm) hm2 (by rw [x6]; exact xi) (by omega) I6 X6 (by rw [x6]; exact px)
  refine Ok_i (fun e => go e rfl (Or.inl rfl)) (fun n1 => Ok_i (fun e => go e rfl (Or.inr (Or.inl rfl))) (fun n2 => Ok_i (fun e => go e rfl (Or.inr (Or.inr rfl))) (fun n3 => ?_)))
  rw [ec] at n1 n2 n3
  rw [e_gC H6, Option.bind_some, R_fails H6, Option.bind_some]
  dsimp only
  rw [if_pos (Or.inl rfl)]
  have k0 : s_co (k_kind T y.1) = 0 := by rw [← px]; exact k_ncmp B n1 n2 n3
  show Ok _ (e_R T t (s_cmp2 T y))
  unfold s_cmp2
  rw [if_pos k0, ← px]
  exact Ok_s ⟨rfl, n_f_0 X6.2.2.1.1 xi (by omega) rfl (by decide)⟩
