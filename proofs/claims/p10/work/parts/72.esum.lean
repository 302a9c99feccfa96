/-! the reference reads as the document says: TERMS, SUMS, COMPARES -/
theorem i_a255 {x : Int32} (h1 : 0 ≤ x.toInt) (h2 : x.toInt ≤ 127) : x &&& 255 = x := Int32.toInt_inj.mp (by rw [i_and255 (by omega) h2, if_pos h1])
theorem n_ca_b {T : gM} (B : z_B T) {q n : Nat} {c : Int32} (hc : c.toInt = (n : Int)) (hn : n ≤ 127) : n_ca T q = c ↔ (q < n_s T ∧ n_b T q = c) := by
  constructor
  · intro h
    by_cases c1 : q < n_s T
    · refine ⟨c1, ?_⟩
      have h2 := n_ca_r B c1
      have h3 := (B.1 q).2
      rw [h, hc] at h2
      by_cases c0 : 0 ≤ (n_b T q).toInt
      · rw [if_pos c0] at h2
        exact Int32.toInt_inj.mp (by omega)
      · rw [if_neg c0] at h2
        have := (B.1 q).1
        omega
    · rw [n_ca_end (by omega)] at h
      subst h
      have : (256 : Int32).toInt = 256 := rfl
      omega
  · rintro ⟨h1, h2⟩
    unfold n_ca
    rw [if_pos h1, h2]
    exact i_a255 (by omega) (by omega)
/-- a sign, no letter and no digit -/
theorem k_sg {T : gM} {p n : Nat} {c : Int32} (h : n_c T p = c) (hc : c.toInt = (n : Int)) (h1 : n < 97 ∨ 122 < n) (h2 : n < 48 ∨ 57 < n) : (p < n_s T ∧ n_ca T p = c) ∧ ¬ n_L T p = true ∧ ¬ n_D T p = true := by
  have hlt := n_c_lt h (by omega)
  have e : n_b T p &&& 255 = c := by
    rw [← h]
    unfold n_c
    rw [if_pos hlt]
  refine ⟨⟨hlt, ?_⟩, fun z => ?_, fun z => ?_⟩
  · unfold n_ca
    rw [if_pos hlt]
    exact e
  · have z2 := (of_decide_eq_true z).2
    rw [i_a255 (by omega) (by omega)] at e
    rw [e] at z2
    omega
  · have z2 := (of_decide_eq_true z).2
    rw [i_a255 (by omega) (by omega)] at e
    rw [e] at z2
    omega
theorem k_s1 {T : gM} {p n : Nat} {c : Int32} (hc : c.toInt = (n : Int)) (h1 : n < 97 ∨ 122 < n) (h2 : n < 48 ∨ 57 < n) (h3 : n ≠ 60 ∧ n ≠ 62) (h4 : n < 256) : (n_c T p = c ↔ k_kind T p = (n : Int)) ∧ (n_c T p = c → k_go T p = n_sk T (p + 1)) := by
  have z60 : (60 : Int32).toInt = 60 := rfl
  have z62 : (62 : Int32).toInt = 62 := rfl
  have f : n_c T p = c → k_kind T p = (n : Int) ∧ k_go T p = n_sk T (p + 1) := by
    intro h
    obtain ⟨⟨a1, a2⟩, a3, a4⟩ := k_sg h hc h1 h2
    have a5 : ¬ k_two T p = true := by
      intro z
      rcases (of_decide_eq_true z).1 with e | e
      · rw [a2] at e
        rw [e] at hc
        omega
      · rw [a2] at e
        rw [e] at hc
        omega
    constructor
    · unfold k_kind
      rw [if_neg (by omega), if_neg a3, if_neg a4, if_neg a5, a2, hc]
    · unfold k_go k_nx k_end
      rw [if_pos a1, if_neg a3, if_neg a4, if_neg a5]
  refine ⟨⟨fun h => (f h).1, fun h => ?_⟩, fun h => (f h).2⟩
  unfold k_kind at h
  by_cases c0 : n_s T ≤ p
  · rw [if_pos c0] at h; omega
  rw [if_neg c0] at h
  by_cases cL : n_L T p = true
  · rw [if_pos cL] at h
    have := k_w_r (T := T) (p := p)
    omega
  rw [if_neg cL] at h
  by_cases cD : n_D T p = true
  · rw [if_pos cD] at h; omega
  rw [if_neg cD] at h
  by_cases c2 : k_two T p = true
  · rw [if_pos c2] at h
    split at h <;> omega
  rw [if_neg c2] at h
  have e : n_ca T p = c := Int32.toInt_inj.mp (h.trans hc.symm)
  unfold n_c
  unfold n_ca at e
  rw [if_pos (show p < n_s T by omega)] at e ⊢
  exact e
theorem s_jo3 {k : Int} (h1 : k ≠ 37) (h2 : k ≠ 42) (h3 : k ≠ 47) : s_jo 3 k = 0 := by
  unfold s_jo
  simp [h1, h2, h3]
theorem s_jo2 {k : Int} (h1 : k ≠ 43) (h2 : k ≠ 45) : s_jo 2 k = 0 := by
  unfold s_jo
  simp [h1, h2]
/-- a place further, over one sign -/
theorem r_Xnext {T : gM} {t p : Nat} {M : gM} {x : sS} (X : r_X T t M x) (px : p = x.1) (h : p + 1 ≤ 400) (hq : k_go T p = n_sk T (p + 1)) : r_X T t (n_at M (p + 1)) (k_go T x.1, x.2) := by
  subst px
  exact r_Xat X h hq.symm
theorem E_term_b74 {T : gM} {t a d c N : Nat} {s : Int32} {M : gM} {x : sS} {k : Option Nat → gM → Option (Int32 × gM)} (hs : (s = 4 ∧ k_kind T x.1 = 42) ∨ (s = 5 ∧ k_kind T x.1 = 47) ∨ (s = 14 ∧ k_kind T x.1 = 37)) (hq : k_go T x.1 = n_sk T (x.1 + 1)) (hk : ∀ {M1 : gM} {y : sS}, p_I t a (d + 1) c M1 → r_X T t M1 y → n_x M < n_x M1 → n_s M1 = n_s M → Ok (k (some 175) M1) (e_R T t (s_loop T 3 (s_val T) N y))) (I : p_I t a (d + 1) c M) (X : r_X T t M x) (xx : n_x M = x.1) (hx : n_x M < n_s M) : Ok (F_X12_term_b74 k (some 175) s M) (e_R T t (s_loop T 3 (s_val T) (N + 1) x)) := by
  have H := I.1.1.1
  have s1 := n_s1 H
  obtain ⟨e1, I1, F1, x1⟩ := p_next (S := p_E) I hx (by decide)
  have X1 := r_Xnext X xx (by omega) (by rw [xx]; exact hq)
  have j1 : ¬ s_jo 3 (k_kind T x.1) = 0 := by rcases hs with ⟨_, e⟩ | ⟨_, e⟩ | ⟨_, e⟩ <;> (rw [e]; decide)
  have j2 : s = e_r (s_jo 3 (k_kind T x.1), 0) := by rcases hs with ⟨e0, e⟩ | ⟨e0, e⟩ | ⟨e0, e⟩ <;> (rw [e0, e]; decide)
  have hB : s = 4 ∨ s = 5 ∨ s = 14 := hs.imp And.left (Or.imp And.left And.left)
  show Ok _ (e_R T t (if s_jo 3 (k_kind T x.1) = 0 then _ else _))
  rw [if_neg j1]
  delta F_X12_term_b74
  rw [e_gI H, Option.bind_some, e_pI H, Option.bind_some, e1]
  generalize n_at M (n_x M + 1) = M1 at I1 F1 x1 X1 ⊢
  have H1 := I1.1.1.1
  rw [e_gO H1, Option.bind_some]
  refine Ok_b (Ok_and (P_value I1) (E_value I1 X1)) (fun y z => ?_)
  obtain ⟨v4, M5⟩ := y
  obtain ⟨⟨⟨H5, F5⟩, P⟩, E⟩ := z
  dsimp only at P E H5 F5 ⊢
  generalize s_val T (k_go T x.1, x.2) = r at E ⊢
  cases r with
  | inl e =>
    obtain ⟨h5, g5⟩ := E
    dsimp only at h5 g5
    subst h5
    rw [if_pos rfl]
    exact Ok_s ⟨rfl, g5⟩
  | inr y =>
    obtain ⟨h5, X5⟩ := E
    dsimp only at h5 X5
    subst h5
    rcases P with ⟨h5, _⟩ | ⟨_, I5, x5⟩
    · exact absurd h5 (by decide)
    rw [if_neg (by decide), e_gC H5, Option.bind_some, R_puts H5 I5.1.1.2 I5.1.2 (by have := I5.2.1; have := n_s1 H5; omega), Option.bind_some]
    obtain ⟨I6, F6, x6⟩ := p_puts (S := p_E) (d2 := d + 1) I5 (y_stB (w := s) (by rcases hB with e | e | e <;> subst e <;> decide)) (by have := I5.2.2.2; omega) (by decide)
    have F := p_F_tr F1 (p_F_tr F5 F6)
    have X6 := r_Xput X5 H5 (by have := I5.2.1; have := n_s1 H5; omega) (w := s + (16 : Int32) * (0 : Int32)) (a := (s_jo 3 (k_kind T x.1), 0)) (by rw [← j2]; rcases hB with e | e | e <;> (subst e; rfl))
    exact hk I6 X6 (by omega) (n_Fs F (by decide))
theorem E_term_L9 {T : gM} (B : z_B T) {t a d c : Nat} : ∀ (n N : Nat) {M : gM} {x : sS}, p_I t a (d + 1) c M → r_X T t M x → n_s M - n_x M < n → n_s M - n_x M < N → Ok (F_X12_term_L9 n (some 175) M) (e_R T t (s_loop T 3 (s_val T) N x)) := by
  intro n
  induction n with
  | zero => intro N M x I X h hN; omega
  | succ n ih =>
    intro N M x I X h hN
    obtain ⟨N, rfl⟩ : ∃ N', N = N' + 1 := ⟨N - 1, by omega⟩
    show Ok (F_X12_term_b9 (F_X12_term_L9 n) (some 175) M) _
    have H := I.1.1.1
    have hx := I.2.1
    have s1 := n_s1 H
    obtain ⟨p, hp⟩ : ∃ p, p = n_sk M (n_x M) := ⟨_, rfl⟩
    have k1 := n_sk_le hx.2
    obtain ⟨I1, F1⟩ := p_see (S := p_E) I (by decide)
    obtain ⟨ex, X1⟩ := r_Xsee X H hx.2
    have px : p = x.1 := hp.trans ex
    rw [← hp] at I1 F1 k1
    rw [← px] at X1
    have H1 := I1.1.1.1
    have x1 : n_x (n_at M p) = p := n_at_x (by omega)
    have s2 : n_s (n_at M p) = n_s M := n_at_s
    have ec : n_c M p = n_c T p := congrFun (n_T X.1.1 X.1.2).2.2.1.2 p
    have go : ∀ {w : Int32} {m : Nat}, n_c M p = w → w.toInt = (m : Int) → (m = 42 ∨ m = 47 ∨ m = 37) → Ok (F_X12_term_b36 (F_X12_term_L9 n) (some 175) (n_at M p)) (e_R T t (s_loop T 3 (s_val T) (N + 1) x)) := by
      intro w m hw hm hm2
      have hlt := n_c_lt hw (by omega)
      rw [ec] at hw
      have kk := k_s1 (T := T) (p := p) hm (by omega) (by omega) (by omega) (by omega)
      have kb : n_b T p = w := ((n_ca_b B hm (by omega)).mp (k_sg hw hm (by omega) (by omega)).1.2).2
      have kd := kk.1.mp hw
      have b74 : ∀ {s : Int32}, ((s = 4 ∧ m = 42) ∨ (s = 5 ∧ m = 47) ∨ (s = 14 ∧ m = 37)) → Ok (F_X12_term_b74 (F_X12_term_L9 n) (some 175) s (n_at M p)) (e_R T t (s_loop T 3 (s_val T) (N + 1) x)) := fun hs => E_term_b74 (hs.imp (fun z => ⟨z.1, by rw [← px, kd, z.2]; rfl⟩) (Or.imp (fun z => ⟨z.1, by rw [← px, kd, z.2]; rfl⟩) (fun z => ⟨z.1, by rw [← px, kd, z.2]; rfl⟩))) (by rw [← px]; exact kk.2 hw) (fun I2 X2 a1 a2 => ih N I2 X2 (by omega) (by omega)) I1 X1 (by rw [x1]; exact px) (by omega)
      have x8 : ((n_at M p).2.1 175 8).toInt = (p : Int) := by
        rw [n_at8]
        exact i_ofNat (by omega)
      have vb : (n_at M p).2.1 176 p = w := by
        rw [← kb]
        exact (congrFun n_at_b p).trans (congrFun X.1.1 p)
      delta F_X12_term_b36
      rw [e_gR H1 (w := 176) rfl (by decide), Option.bind_some, e_gI H1, Option.bind_some, e_aI H1 (t := 22) (i := 176) (n := 400) rfl (by decide) (by omega) (by omega), Option.bind_some, i_cl x8, vb]
      have z42 : (42 : Int32).toInt = 42 := rfl
      have z47 : (47 : Int32).toInt = 47 := rfl
      refine Ok_i (fun e => b74 (Or.inl ⟨rfl, by rw [e] at hm; omega⟩)) (fun e => ?_)
      have e42 : m ≠ 42 := fun z => e (Int32.toInt_inj.mp (by omega))
      rw [Option.bind_some, Option.bind_some, e_aI H1 (t := 22) (i := 176) (n := 400) rfl (by decide) (by omega) (by omega), Option.bind_some, i_cl x8, vb]
      refine Ok_i (fun e => b74 (Or.inr (Or.inl ⟨rfl, by rw [e] at hm; omega⟩))) (fun e => b74 (Or.inr (Or.inr ⟨rfl, ?_⟩)))
      have e47 : m ≠ 47 := fun z => e (Int32.toInt_inj.mp (by omega))
      omega
    delta F_X12_term_b9
    rw [e_gO H, Option.bind_some, R_see H hx.2, ← hp, Option.bind_some]
    dsimp only
    refine Ok_i (fun e => go e rfl (Or.inl rfl)) (fun n1 => ?_)
    rw [e_gC H1, Option.bind_some, R_see2 H hx.2 hp, Option.bind_some]
    dsimp only
    refine Ok_i (fun e => go e rfl (Or.inr (Or.inl rfl))) (fun n2 => ?_)
    rw [e_gC H1, Option.bind_some, R_see2 H hx.2 hp, Option.bind_some]
    dsimp only
    refine Ok_i (fun e => go e rfl (Or.inr (Or.inr rfl))) (fun n3 => ?_)
    rw [ec] at n1 n2 n3
    have m1 := mt (k_s1 (T := T) (p := p) (c := (42 : Int32)) (n := 42) rfl (by omega) (by omega) (by omega) (by omega)).1.mpr n1
    have m2 := mt (k_s1 (T := T) (p := p) (c := (47 : Int32)) (n := 47) rfl (by omega) (by omega) (by omega) (by omega)).1.mpr n2
    have m3 := mt (k_s1 (T := T) (p := p) (c := (37 : Int32)) (n := 37) rfl (by omega) (by omega) (by omega) (by omega)).1.mpr n3
    show Ok _ (e_R T t (if s_jo 3 (k_kind T x.1) = 0 then _ else _))
    rw [if_pos (s_jo3 (by rw [← px]; exact m3) (by rw [← px]; exact m1) (by rw [← px]; exact m2))]
    exact Ok_s ⟨rfl, X1⟩
theorem E_term {T : gM} (B : z_B T) {t a d c : Nat} {M : gM} {x : sS} (I : p_I t a d c M) (X : r_X T t M x) : Ok (F_X12_term (some 175) M) (e_R T t (s_term T x)) := by
  have H := I.1.1.1
  delta F_X12_term F_X12_term_b0
  rw [e_gO H, Option.bind_some]
  show Ok _ (e_R T t (s_b (s_val T x) _))
  refine Ok_b (Ok_and (P_value I) (E_value I X)) (fun y z => ?_)
  obtain ⟨v2, M3⟩ := y
  obtain ⟨⟨⟨H3, F3⟩, P⟩, E⟩ := z
  dsimp only at P E H3 F3 ⊢
  generalize s_val T x = r at E ⊢
  cases r with
  | inl e =>
    obtain ⟨h3, g3⟩ := E
    dsimp only at h3 g3
    subst h3
    rw [if_pos rfl]
    exact Ok_s ⟨rfl, g3⟩
  | inr y =>
    obtain ⟨h3, X3⟩ := E
    dsimp only at h3 X3
    subst h3
    rcases P with ⟨h3, _⟩ | ⟨_, I3, x3⟩
    · exact absurd h3 (by decide)
    rw [if_neg (by decide)]
    have s3 := n_s1 H3
    exact E_term_L9 B _ _ I3 X3 (n_fu (by omega)) (by omega)
