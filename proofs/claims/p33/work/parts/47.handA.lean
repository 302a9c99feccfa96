/-! how many bits -/
theorem y_low2 {x i : Nat} (hx : 1 ≤ x) (h : x % 2 ^ i = 0) : (x &&& (x - 1)) % 2 ^ (i + 1) = 0 := by
  rw [Nat.and_mod_two_pow]
  have h2 : x % 2 ^ (i + 1) = 0 ∨ x % 2 ^ (i + 1) = 2 ^ i := by
    obtain ⟨y, rfl⟩ := Nat.dvd_of_mod_eq_zero h
    rw [Nat.pow_succ, Nat.mul_mod_mul_left]
    rcases Nat.mod_two_eq_zero_or_one y with e | e
    · rw [e]
      exact Or.inl rfl
    · rw [e]
      exact Or.inr (Nat.mul_one _)
  rcases h2 with e | e
  · rw [e, Nat.zero_and]
  · have e3 : (x - 1) % 2 ^ (i + 1) = 2 ^ i - 1 := by
      have hd := Nat.div_add_mod x (2 ^ (i + 1))
      rw [e] at hd
      have hp : 0 < 2 ^ i := Nat.two_pow_pos i
      have hs : 2 ^ (i + 1) = 2 ^ i * 2 := Nat.pow_succ _ _
      generalize hw : 2 ^ (i + 1) * (x / 2 ^ (i + 1)) = w at hd
      have e4 : x - 1 = 2 ^ i - 1 + w := by omega
      rw [e4, ← hw, Nat.add_mul_mod_self_left, Nat.mod_eq_of_lt (by omega)]
    rw [e, e3, Nat.and_two_pow_sub_one_eq_mod, Nat.mod_self]
theorem y_pop1 {s : Int32} {i : Nat} (hs : ¬ s = 0) (h : s.toBitVec.toNat % 2 ^ i = 0) : (s &&& (s - 1)).toBitVec.toNat % 2 ^ (i + 1) = 0 := by
  have h1 : 1 ≤ s.toBitVec.toNat := by
    rcases Nat.eq_zero_or_pos s.toBitVec.toNat with e | e
    · exfalso
      apply hs
      apply Int32.toBitVec_inj.mp
      apply BitVec.eq_of_toNat_eq
      rw [e]
      rfl
    · exact e
  have h2 := s.toBitVec.isLt
  have e : (s &&& (s - 1)).toBitVec.toNat = s.toBitVec.toNat &&& (s.toBitVec.toNat - 1) := by
    rw [Int32.toBitVec_and, BitVec.toNat_and, Int32.toBitVec_sub, BitVec.toNat_sub]
    have e1 : (1 : Int32).toBitVec.toNat = 1 := rfl
    rw [e1]
    congr 1
    omega
  rw [e]
  exact y_low2 h1 h
theorem S_X12_bits_L4 {M : gM} : ∀ (n i : Nat) {l1 l2 : Int32}, i ≤ 32 → l2.toBitVec.toNat % 2 ^ i = 0 → (0 ≤ l1.toInt ∧ l1.toInt ≤ (i : Int)) → 32 < n + i → Ok (F_X12_bits_L4 M n l1 l2) (q_pi 0 32) := by
  intro n
  induction n with
  | zero =>
    intro i l1 l2 h1 h2 h3 h4
    exfalso
    omega
  | succ n ih =>
    intro i l1 l2 h1 h2 h3 h4
    show Ok (F_X12_bits_b4 (F_X12_bits_L4 M n) M l1 l2) _
    delta F_X12_bits_b4
    refine Ok_i (fun c => ?_) (fun c => ?_)
    · exact Ok_s ⟨h3.1, by omega⟩
    · have hi : i < 32 := by
        rcases Nat.lt_or_ge i 32 with e | e
        · exact e
        · exfalso
          have e2 : i = 32 := by omega
          subst e2
          apply c
          apply Int32.toBitVec_inj.mp
          apply BitVec.eq_of_toNat_eq
          rw [Nat.mod_eq_of_lt l2.toBitVec.isLt] at h2
          rw [h2]
          rfl
      have z1 : (1 : Int32).toInt = 1 := rfl
      have a := i_addc (x := l1) (c := (1 : Int32)) z1 (by omega) (by omega)
      exact ih (i + 1) (by omega) (y_pop1 c h2) (by rw [a]; omega) (by omega)
theorem S_X12_bits {l0 : Int32} {M : gM} (H : y_HT M) : Ok (F_X12_bits l0 M) (q_pi 0 32) := by
  delta F_X12_bits F_X12_bits_b0
  exact S_X12_bits_L4 g_fuel 0 (by decide) (Nat.mod_one _) (by decide) (by decide)
/-! the reckoner -/
theorem S_X12_one {l0 : Int32} {l1 l3 : Int64} {M : gM} : Ok (F_X12_one l0 l1 l3 M) q_pj := by
  delta F_X12_one F_X12_one_b0 F_X12_one_b172
  refine Ok_i (fun _ => r_pj) (fun _ => ?_)
  refine Ok_i (fun _ => r_pj) (fun _ => ?_)
  refine Ok_i (fun _ => r_pj) (fun _ => ?_)
  refine Ok_i (fun _ => Ok_i (fun _ => r_pj) (fun c => Ok_e (i_nzJ c) r_pj)) (fun _ => ?_)
  refine Ok_i (fun _ => Ok_i (fun _ => r_pj) (fun _ => r_pj)) (fun _ => ?_)
  refine Ok_i (fun _ => Ok_i (fun _ => r_pj) (fun _ => r_pj)) (fun _ => ?_)
  refine Ok_i (fun _ => Ok_i (fun _ => r_pj) (fun _ => r_pj)) (fun _ => ?_)
  refine Ok_i (fun _ => Ok_i (fun _ => r_pj) (fun _ => r_pj)) (fun _ => ?_)
  refine Ok_i (fun _ => Ok_i (fun _ => r_pj) (fun _ => r_pj)) (fun _ => ?_)
  refine Ok_i (fun _ => r_pj) (fun _ => ?_)
  refine Ok_i (fun _ => Ok_i (fun _ => r_pj) (fun c => Ok_e (i_nzJ c) r_pj)) (fun _ => ?_)
  exact r_pj
def y_top (M : gM) : Int := (M.2.1 175 18).toInt
theorem S_X12_push {v : Int64} {M : gM} (H : y_HT M) (ht : y_top M ≤ 63) : Ok (F_X12_push (some 175) v M) (fun M' => y_PV 262144 M M' ∧ y_top M' = y_top M + 1) := by
  delta F_X12_push F_X12_push_b0
  have z1 : (1 : Int32).toInt = 1 := rfl
  refine y_gR (w := 183) H rfl (by decide) ?_
  refine y_gI (lo := 0) (hi := 64) H rfl (fun v2 q2 e2 => ?_)
  unfold y_top at ht ⊢
  rw [q2] at ht ⊢
  refine y_sL (S := 262144) H (i := 183) (n := 64) rfl (by omega) (by omega) (fun M3 H3 f3 o3 => ?_)
  refine y_gIs H3 ((congrFun (congrFun o3 _) _).trans q2) ?_
  have a := i_addc (x := v2) (c := (1 : Int32)) z1 (by omega) (by omega)
  refine y_pI (S := 262144) (lo := 0) (hi := 64) H3 rfl (by omega) (by decide) (fun M5 H5 f5 q5 o5 l5 => ?_)
  exact Ok_s ⟨⟨H5, y_tr f3 f5⟩, by rw [q5]; exact a⟩
theorem S_X12_pop {M : gM} (H : y_HT M) (ht : 1 ≤ y_top M) : Ok (F_X12_pop (some 175) M) (fun r => y_PJ 262144 M r ∧ y_top r.2 = y_top M - 1) := by
  delta F_X12_pop F_X12_pop_b0
  have z1 : (1 : Int32).toInt = 1 := rfl
  refine y_gI (lo := 0) (hi := 64) H rfl (fun v1 q1 e1 => ?_)
  unfold y_top at ht ⊢
  rw [q1] at ht ⊢
  have a := i_subc (x := v1) (c := (1 : Int32)) z1 (by omega) (by omega)
  refine y_pI (S := 262144) (lo := 0) (hi := 64) H rfl (by omega) (by decide) (fun M2 H2 f2 q2 o2 l2 => ?_)
  refine y_gR (w := 183) H2 rfl (by decide) ?_
  refine y_gIs H2 q2 ?_
  refine y_aL H2 (i := 183) (n := 64) rfl (by omega) (by omega) (fun v5 => ?_)
  exact Ok_s ⟨⟨H2, f2⟩, by rw [q2]; exact a⟩
theorem y_evp {f : Nat → Int32} {a : Nat} : ∀ {n k r : Nat}, y_ev f a n = some r → k ≤ n → ∃ d, y_ev f a k = some d := by
  intro n
  induction n with
  | zero =>
    intro k r h hk
    have e : k = 0 := by omega
    subst e
    exact ⟨0, rfl⟩
  | succ n ih =>
    intro k r h hk
    rcases Nat.lt_or_ge k (n + 1) with e | e
    · have h2 : ∃ d, y_ev f a n = some d := by
        unfold y_ev at h
        cases h3 : y_ev f a n with
        | none =>
          rw [h3] at h
          cases h
        | some d => exact ⟨d, rfl⟩
      obtain ⟨d, h2⟩ := h2
      exact ih h2 (by omega)
    · have e2 : k = n + 1 := by omega
      subst e2
      exact ⟨r, h⟩
theorem y_evc {f g : Nat → Int32} {a : Nat} : ∀ {n : Nat}, (∀ j, a ≤ j → j < a + n → f j = g j) → y_ev f a n = y_ev g a n := by
  intro n
  induction n with
  | zero =>
    intro h
    rfl
  | succ n ih =>
    intro h
    unfold y_ev
    rw [ih (fun j h1 h2 => h j h1 (by omega)), h (a + n) (by omega) (by omega)]
theorem y_snf {S : Nat} {M M' : gM} (f : y_Fr S M M') (h : S.testBit 42 = false) (t : Nat) : y_sn M' t = y_sn M t := funext (fun _ => y_fa (i := 177) f (by decide) h _)
theorem S_X12_reckons_L8 {t a N : Nat} {l1 l3 : Int32} (ht : l1.toInt = (t : Int)) (ht5 : t ≤ 5) (h3 : l3.toInt = (a : Int) + N) (h4 : a + N ≤ 400) : ∀ (n k : Nat) {l4 : Int32} {M : gM}, y_HT M → y_ev (y_sn M t) a N = some 1 → l4.toInt = (a : Int) + k → k ≤ N → (∃ d : Nat, y_ev (y_sn M t) a k = some d ∧ y_top M = (d : Int) ∧ d ≤ 60) → N < n + k → Ok (F_X12_reckons_L8 n (some 175) l1 l3 l4 M) (y_PJ 262144 M) := by
  intro n
  induction n with
  | zero =>
    intro k l4 M H he h5 h6 hd hn
    exfalso
    omega
  | succ n ih =>
    intro k l4 M H he h5 h6 hd hn
    show Ok (F_X12_reckons_b8 (F_X12_reckons_L8 n) (some 175) l1 l3 l4 M) _
    delta F_X12_reckons_b8 F_X12_reckons_b129
    have z1 : (1 : Int32).toInt = 1 := rfl
    obtain ⟨d, hd, htop, hd60⟩ := hd
    refine Ok_i (fun c => ?_) (fun c => ?_)
    · replace c := i_le c
      have ek : k = N := by omega
      subst ek
      rw [he] at hd
      cases hd
      refine y_gO H ?_
      refine Ok_b (S_X12_pop H (by omega)) (fun y z => ?_)
      obtain ⟨v2, M3⟩ := y
      exact Ok_s z.1
    · replace c := i_nle c
      have hk : k < N := by omega
      obtain ⟨d2, hd2⟩ := y_evp he (show k + 1 ≤ N by omega)
      have hst : y_st (y_sn M t (a + k)) d = some d2 := by
        unfold y_ev at hd2
        rw [hd] at hd2
        exact hd2
      have a1 := i_mulL (c := (400 : Int32)) (x := l1) (n := 400) rfl (by omega) (by omega)
      have a2 := i_add (x := (400 : Int32) * l1) (y := l4) (by omega) (by omega)
      have hj : ((400 : Int32) * l1 + l4).toNatClampNeg = 400 * t + (a + k) := by
        have := i_clamp (x := (400 : Int32) * l1 + l4) (by omega)
        omega
      refine y_gR (w := 177) H rfl (by decide) ?_
      refine y_aI H (i := 177) (n := 2400) rfl (by decide) (by omega) (by omega) (fun v5 q5 => ?_)
      refine y_gR (w := 177) H rfl (by decide) ?_
      refine y_aIs H (i := 177) (n := 2400) rfl (by decide) (by omega) (by omega) q5 ?_
      have q6 : y_sn M t (a + k) = v5 := by
        rw [← q5, hj]
        rfl
      rw [q6] at hst
      have a4 := i_addc (x := l4) (c := (1 : Int32)) z1 (by omega) (by omega)
      have go : ∀ {M1 : gM}, y_HT M1 → y_Fr 262144 M M1 → y_top M1 = (d2 : Int) → d2 ≤ 60 → Ok (F_X12_reckons_L8 n (some 175) l1 l3 (l4 + 1) M1) (y_PJ 262144 M) := by
        intro M1 H1 f1 h1 h2
        have es := y_snf f1 (by decide) t
        exact v_PJ (S1 := 262144) f1 (ih (k + 1) H1 (by rw [es]; exact he) (by omega) (by omega) ⟨d2, by rw [es]; exact hd2, h1, h2⟩ (by omega)) (by decide)
      unfold y_st at hst
      refine Ok_i (fun c1 => ?_) (fun c1 => ?_)
      · rw [if_pos c1] at hst
        by_cases h9 : d < 60
        · rw [if_pos h9] at hst
          cases hst
          refine y_gO H ?_
          refine Ok_b (S_X12_push H (by omega)) (fun M27 z => ?_)
          exact go z.1.1 z.1.2 (by rw [z.2]; omega) (by omega)
        · rw [if_neg h9] at hst
          cases hst
      · rw [if_neg c1] at hst
        refine Ok_i (fun c2 => ?_) (fun c2 => ?_)
        · rw [if_pos c2] at hst
          by_cases h9 : (0 ≤ (v5 >>> 4).toInt ∧ (v5 >>> 4).toInt < 14) ∧ d < 60
          · rw [if_pos h9] at hst
            cases hst
            refine y_gR (w := 184) H rfl (by decide) ?_
            refine y_aL H (i := 184) (n := 14) rfl h9.1.1 h9.1.2 (fun v23 => ?_)
            refine y_gO H ?_
            refine Ok_b (S_X12_push H (by omega)) (fun M25 z => ?_)
            exact go z.1.1 z.1.2 (by rw [z.2]; omega) (by omega)
          · rw [if_neg h9] at hst
            cases hst
        · rw [if_neg c2] at hst
          refine Ok_i (fun c3 => ?_) (fun c3 => ?_)
          · rw [if_pos c3] at hst
            by_cases h9 : 1 ≤ d
            · rw [if_pos h9] at hst
              cases hst
              refine y_gO H ?_
              refine Ok_b (S_X12_pop H (by omega)) (fun y z => ?_)
              obtain ⟨v18, M19⟩ := y
              obtain ⟨⟨H19, f19⟩, t19⟩ := z
              dsimp only at H19 f19 t19
              refine y_gC H19 ?_
              refine Ok_b (S_X12_push H19 (by omega)) (fun M21 z => ?_)
              exact go z.1.1 (y_tr f19 z.1.2) (by rw [z.2]; omega) (by omega)
            · rw [if_neg h9] at hst
              cases hst
          · rw [if_neg c3] at hst
            by_cases h9 : 2 ≤ d
            · rw [if_pos h9] at hst
              cases hst
              refine y_gO H ?_
              refine Ok_b (S_X12_pop H (by omega)) (fun y z => ?_)
              obtain ⟨v9, M10⟩ := y
              obtain ⟨⟨H10, f10⟩, t10⟩ := z
              dsimp only at H10 f10 t10
              refine y_gC H10 ?_
              refine Ok_b (S_X12_pop H10 (by omega)) (fun y z => ?_)
              obtain ⟨v12, M13⟩ := y
              obtain ⟨⟨H13, f13⟩, t13⟩ := z
              dsimp only at H13 f13 t13
              refine Ok_b S_X12_one (fun v14 _ => ?_)
              refine y_gC H13 ?_
              refine Ok_b (S_X12_push H13 (by omega)) (fun M16 z => ?_)
              exact go z.1.1 (y_tr f10 (y_tr f13 z.1.2)) (by rw [z.2]; omega) (by omega)
            · rw [if_neg h9] at hst
              cases hst
theorem S_X12_reckons {t : Nat} {l1 l2 l3 : Int32} {M : gM} (H : y_HT M) (ht : l1.toInt = (t : Int)) (ht5 : t ≤ 5) (hs : y_sg (y_sn M t) l2 l3) : Ok (F_X12_reckons (some 175) l1 l2 l3 M) (y_PJ 262144 M) := by
  delta F_X12_reckons F_X12_reckons_b0
  obtain ⟨⟨h1, h2, h3⟩, h4⟩ := hs
  refine y_pI (S := 262144) (lo := 0) (hi := 64) H rfl (by decide) (by decide) (fun M1 H1 f1 q1 o1 _ => ?_)
  have es := y_snf f1 (by decide) t
  refine v_PJ (S1 := 262144) f1 ?_ (by decide)
  refine S_X12_reckons_L8 (t := t) (a := l2.toInt.toNat) (N := (l3.toInt - l2.toInt).toNat) ht ht5 (by omega) (by omega) g_fuel 0 H1 (by rw [es]; exact h4) (by omega) (by omega) ⟨0, rfl, ?_, by decide⟩ (by unfold g_fuel; omega)
  unfold y_top
  rw [q1]
  rfl
/-! a rule's clauses, one after another -/
theorem y_rul {M : gM} {l1 l2 : Int32} (W : y_W M) (h1 : 0 ≤ l1.toInt ∧ l1.toInt < (M.2.1 175 2).toInt) (h2 : 0 ≤ l2.toInt) (h3 : l2.toInt < (M.2.1 180 l1.toNatClampNeg).toInt) : y_cl M l1.toNatClampNeg (48 * l1.toNatClampNeg + 4 * l2.toNatClampNeg) := by
  have e1 := i_clamp h1.1
  have e2 := i_clamp h2
  exact W.2 _ _ (by omega) (by omega)
theorem y_mv {M : gM} {i k i2 k2 : Nat} {v : Int32} (H : y_HT M) (hi : y_cs i) (q : M.2.1 i k = v) (e : y_tI i2 k2 = y_tI i k) : y_rg (y_tI i2 k2) v := by
  rw [e, ← q]
  exact H.2.1 i hi k
