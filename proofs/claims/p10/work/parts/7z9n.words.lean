/-! how many bits; the WORDS of an HEIR and a THING -/
def s_cn (f : Nat → Bool) : Nat → Int32
  | 0 => 0
  | k + 1 => if f k = true then s_cn f k + 1 else s_cn f k
theorem cn_succ {f : Nat → Bool} {k : Nat} : s_cn f (k + 1) = if f k = true then s_cn f k + 1 else s_cn f k := rfl
theorem cn_congr {f g : Nat → Bool} : ∀ {k : Nat}, (∀ i, i < k → f i = g i) → s_cn f k = s_cn g k := by
  intro k
  induction k with
  | zero => intro _; rfl
  | succ k ih =>
    intro h
    rw [cn_succ, cn_succ, ih (fun i hi => h i (by omega)), h k (by omega)]
theorem cn_r {f : Nat → Bool} : ∀ {k : Nat}, k ≤ 10 → 0 ≤ (s_cn f k).toInt ∧ (s_cn f k).toInt ≤ k := by
  intro k
  induction k with
  | zero =>
    intro _
    have z0 : (s_cn f 0).toInt = 0 := rfl
    rw [z0]
    omega
  | succ k ih =>
    intro hk
    have ih := ih (by omega)
    rw [cn_succ]
    by_cases c : f k = true
    · rw [if_pos c]
      have := i_addc (x := s_cn f k) (c := (1 : Int32)) (n := 1) rfl (by omega) (by omega)
      omega
    · rw [if_neg c]
      omega
def g_Z0 : gM := ([], fun _ _ => 0, fun _ _ => 0, fun _ _ => none)
def s_l7 (b0 b1 b2 b3 b4 b5 b6 : Bool) : Nat → Bool := fun i => [b0, b1, b2, b3, b4, b5, b6].getD i false
theorem bc_7 : ∀ b0 b1 b2 b3 b4 b5 b6 : Bool, F_J6_bitCount_0f7a4 (s_bs (s_l7 b0 b1 b2 b3 b4 b5 b6) 7) g_Z0 = some (s_cn (s_l7 b0 b1 b2 b3 b4 b5 b6) 7) := by decide +kernel
theorem l7_of {f : Nat → Bool} {i : Nat} (h : i < 7) : f i = s_l7 (f 0) (f 1) (f 2) (f 3) (f 4) (f 5) (f 6) i := by
  rcases (by omega : i = 0 ∨ i = 1 ∨ i = 2 ∨ i = 3 ∨ i = 4 ∨ i = 5 ∨ i = 6) with e | e | e | e | e | e | e <;> subst e <;> rfl
theorem bs_7 {f : Nat → Bool} {k : Nat} (h : k ≤ 7) : s_bs f k = s_bs (fun i => decide (i < k) && f i) 7 := by
  refine Int32.toBitVec_inj.mp (BitVec.eq_of_getLsbD_eq (fun i hi => ?_))
  rw [bs_get (by omega), bs_get (by omega)]
  by_cases c : i < k
  · rw [decide_eq_true c, decide_eq_true (show i < 7 by omega)]
    rfl
  · rw [decide_eq_false c, Bool.false_and, Bool.and_false]
theorem cn_7 {f : Nat → Bool} : ∀ (j k : Nat), k ≤ j → s_cn (fun i => decide (i < k) && f i) j = s_cn f k := by
  intro j
  induction j with
  | zero =>
    intro k h
    have e : k = 0 := by omega
    rw [e]
    rfl
  | succ j ih =>
    intro k h
    rw [cn_succ]
    by_cases c : k ≤ j
    · rw [if_neg (by rw [decide_eq_false (show ¬ j < k by omega)]; simp)]
      exact ih k c
    · have e : k = j + 1 := by omega
      subst e
      rw [cn_succ, decide_eq_true (show j < j + 1 by omega), Bool.true_and]
      have e2 : s_cn (fun i => decide (i < j + 1) && f i) j = s_cn f j := cn_congr (fun i hi => by rw [decide_eq_true (show i < j + 1 by omega), Bool.true_and])
      rw [e2]
theorem C_bitCount {f : Nat → Bool} {k : Nat} {M : gM} (h : k ≤ 7) : F_J6_bitCount_0f7a4 (s_bs f k) M = some (s_cn f k) := by
  have z := bc_7 ((fun i => decide (i < k) && f i) 0) ((fun i => decide (i < k) && f i) 1) ((fun i => decide (i < k) && f i) 2) ((fun i => decide (i < k) && f i) 3) ((fun i => decide (i < k) && f i) 4) ((fun i => decide (i < k) && f i) 5) ((fun i => decide (i < k) && f i) 6)
  rw [← bs_congr (fun i hi => l7_of (f := fun i => decide (i < k) && f i) hi), ← cn_congr (fun i hi => l7_of (f := fun i => decide (i < k) && f i) hi), ← bs_7 h, cn_7 7 k h] at z
  exact z
/-- who knows it as the same: one more than the others -/
theorem cn_sc {σ : Nat → Int32} {h t : Nat} (k : s_kn σ h t = true) : ∀ (j : Nat), s_cn (fun o => s_kn σ o t && s_va σ o t == s_va σ h t) j = s_sc σ h t j + (if h < j then 1 else 0) := by
  intro j
  induction j with
  | zero => rfl
  | succ j ih =>
    rw [cn_succ, sc_succ, ih]
    by_cases e : j = h
    · subst e
      have p1 : (s_kn σ j t && s_va σ j t == s_va σ j t) = true := by rw [k]; simp
      have p2 : ¬ (j ≠ j ∧ s_va σ j t = s_va σ j t) := fun z => z.1 rfl
      rw [if_pos p1, if_neg p2, if_neg (show ¬ j < j by omega), if_pos (show j < j + 1 by omega)]
      simp
    · have en : (h < j + 1) ↔ h < j := by omega
      simp only [en]
      by_cases c : s_va σ j t = s_va σ h t
      · have kj : s_kn σ j t = true := by
          rw [← k]
          unfold s_kn
          rw [c]
        have p1 : (s_kn σ j t && s_va σ j t == s_va σ h t) = true := by rw [kj, c]; simp
        have p2 : j ≠ h ∧ s_va σ j t = s_va σ h t := ⟨e, c⟩
        rw [if_pos p1, if_pos p2]
        by_cases d : h < j
        · rw [if_pos d]
        · rw [if_neg d]
          simp
      · have p1 : ¬ (s_kn σ j t && s_va σ j t == s_va σ h t) = true := by simp [c]
        have p2 : ¬ (j ≠ h ∧ s_va σ j t = s_va σ h t) := fun z => c z.2
        rw [if_neg p1, if_neg p2]
def s_wd (σ : Nat → Int32) (h t : Nat) : Nat → Int64
  | 0 => (Int32.ofNat h).toInt64
  | 1 => (Int32.ofNat t).toInt64
  | 2 => (s_va σ h t).toInt64
  | 3 => if s_va σ h t = σ (10 + 4 * t) then 1 else 0
  | 4 => (s_st σ h t).toInt64
  | 5 => (σ (38 + 2 * h)).toInt64
  | 6 => (hs_is (σ 6) (Int32.ofNat h)).toInt64
  | 7 => (hs_is (σ 7) (Int32.ofNat t)).toInt64
  | 8 => (hs_is (σ 8) (Int32.ofNat t)).toInt64
  | 9 => (σ (11 + 4 * t)).toInt64
  | 10 => (σ (12 + 4 * t)).toInt64
  | 11 => (σ 4).toInt64
  | 12 => (s_sc σ h t (hs_m σ)).toInt64
  | _ => (s_cn (fun o => s_kn σ h o) (hs_n σ)).toInt64
/-- the class has put so many words -/
def w_A (M M1 : gM) (wd : Nat → Int64) (n : Nat) : Prop := ((M1.1 = M.1 ∧ M1.2.2.2 = M.2.2.2) ∧ M1.2.1 = M.2.1 ∧ ∀ i, i ≠ 8 → M1.2.2.1 i = M.2.2.1 i) ∧ ∀ i, i < n → M1.2.2.1 8 i = wd i
theorem w_Az {M M1 : gM} {wd : Nat → Int64} {n : Nat} (a : w_A M M1 wd n) (Z : k_Z M) : k_Z M1 := by
  have hk : ∀ i, g_k M1 i = g_k M i := fun i => q_k_of a.1.1.1
  unfold k_Z at Z ⊢
  simp only [hk, a.1.1.2]
  exact Z
theorem w_AX {M M1 : gM} {wd : Nat → Int64} {n s e : Nat} {σ : Nat → Int32} (a : w_A M M1 wd n) (X : k_X M s e σ) : k_X M1 s e σ :=
  ⟨⟨k_LEm X.1.1 (fun i => q_k_of a.1.1.1) a.1.1.2, k_LSm X.1.2 (fun i => q_k_of a.1.1.1) a.1.1.2⟩, ⟨k_Em X.2.1.1 (fun i k _ _ _ => by rw [a.1.2.1]), k_Sm X.2.1.2 (fun i k _ _ => by rw [a.1.2.1])⟩, X.2.2⟩
theorem w_step {M M1 : gM} {wd : Nat → Int64} {n : Nat} {j : Int32} {v : Int64} {f : gM → Option gM} {P : gM → Prop} (a : w_A M M1 wd n) (Z : k_Z M) (hj : j.toInt = (n : Int)) (hn : n < 14) (hv : v = wd n) (g : ∀ M2, w_A M M2 wd (n + 1) → Ok (f M2) P) : Ok ((sL M1 (some 8) j v).bind f) P := by
  have Z1 := w_Az a Z
  rw [t_sL Z1.1.2 (by omega) (by omega), Option.bind_some, i_cl hj]
  refine g _ ⟨⟨a.1.1, a.1.2.1, fun i hi => ?_⟩, fun i hi => ?_⟩
  · rw [← a.1.2.2 i hi]
    exact funext (fun q => mL_ne (Or.inl hi))
  · by_cases c : i = n
    · rw [c, y_mL1, hv]
    · rw [mL_ne (Or.inr c)]
      exact a.2 i (by omega)
theorem C_look {M : gM} {s e h t : Nat} {σ : Nat → Int32} {l4 l5 : Int32} (Z : k_Z M) (X : k_X M s e σ) (h4 : l4.toInt = (h : Int)) (h5 : l5.toInt = (t : Int)) (hh : h < hs_m σ) (ht : t < hs_n σ) (k : s_kn σ h t = true) : Ok (F_X5_look (some 6) (some e) (some s) l4 l5 M) (fun M' => w_A M M' (s_wd σ h t) 14) := by
  have nn := s_Vn X.2.2
  have ix := k_ix h4 h5 (by omega) (by omega)
  have n4 := i_nt h4 (by omega)
  have n5 := i_nt h5 (by omega)
  have a0 : w_A M M (s_wd σ h t) 0 := ⟨⟨⟨rfl, rfl⟩, rfl, fun _ _ => rfl⟩, fun i hi => absurd hi (Nat.not_lt_zero _)⟩
  obtain ⟨⟨ke, ⟨e6, e7⟩, e9, e10⟩, ⟨⟨ks, k1, k2⟩, k3, k4⟩, ⟨r0, r1⟩, r2, r3⟩ := k_XE X
  have R0 : g_k M (e + 1) = (20, 7) ∧ M.2.2.2 e 0 = some (e + 1) := k_XR (i := 0) X (by decide)
  have R1 : g_k M (e + 2) = (20, 7) ∧ M.2.2.2 e 1 = some (e + 2) := k_XR (i := 1) X (by decide)
  have R2 : g_k M (e + 3) = (20, 7) ∧ M.2.2.2 e 2 = some (e + 3) := k_XR (i := 2) X (by decide)
  have E3 := X.2.1.1.2.2.1 t (by omega)
  have av : M.2.1 (s + 3) h = σ (38 + 2 * h) := (X.2.1.2.2.1 h (by omega)).1
  have S1 := X.2.1.2.1
  have vs := k_Xst X hh (t := t) (by omega)
  -- what every step looks at
  have w : ∀ {n : Nat} {M1 : gM}, w_A M M1 (s_wd σ h t) n → (∀ i, g_k M1 i = g_k M i) ∧ M1.2.2.2 = M.2.2.2 ∧ M1.2.1 = M.2.1 := fun a => ⟨fun i => q_k_of a.1.1.1, a.1.1.2, a.1.2.1⟩
  have b67 : ∀ {M8 : gM} {v : Int64}, w_A M M8 (s_wd σ h t) 3 → v = s_wd σ h t 3 → Ok (F_X5_look_b67 (some 6) (some e) (some s) l4 l5 (l4 * (7 : Int32) + l5) (some 8) (3 : Int32) v M8) (fun M' => w_A M M' (s_wd σ h t) 14) := by
    intro M8 v a hv
    delta F_X5_look_b67
    refine w_step a Z rfl (by decide) hv (fun M1 a => ?_)
    obtain ⟨wk, wr, wi⟩ := w a
    refine x_gR (w_Az a Z).1.1.1 (w_Az a Z).2.2 (x_gR ((wk s).trans ks) ((congrFun (congrFun wr _) _).trans (r1)) (x_aI ((wk _).trans k2) ix (by omega) ((congrFun (congrFun wi _) _).trans (vs.1)) ?_))
    refine w_step a Z rfl (by decide) rfl (fun M5 a => ?_)
    obtain ⟨wk, wr, wi⟩ := w a
    refine x_gR (w_Az a Z).1.1.1 (w_Az a Z).2.2 (x_gR ((wk s).trans ks) ((congrFun (congrFun wr _) _).trans (r2)) (x_aI ((wk _).trans k3) h4 (by omega) ((congrFun (congrFun wi _) _).trans (av)) ?_))
    refine w_step a Z rfl (by decide) rfl (fun M9 a => ?_)
    obtain ⟨wk, wr, wi⟩ := w a
    refine x_gR (w_Az a Z).1.1.1 (w_Az a Z).2.2 (x_gI ((wk e).trans ke) ((congrFun (congrFun wi _) _).trans (e10)) (x_eq C_bit ?_))
    refine w_step a Z rfl (by decide) (by rw [n4]; rfl) (fun M13 a => ?_)
    obtain ⟨wk, wr, wi⟩ := w a
    refine x_gR (w_Az a Z).1.1.1 (w_Az a Z).2.2 (x_gI ((wk e).trans ke) ((congrFun (congrFun wi _) _).trans (e9)) (x_eq C_bit ?_))
    refine w_step a Z rfl (by decide) (by rw [n5]; rfl) (fun M17 a => ?_)
    obtain ⟨wk, wr, wi⟩ := w a
    refine x_gR (w_Az a Z).1.1.1 (w_Az a Z).2.2 (x_gI ((wk s).trans ks) ((congrFun (congrFun wi _) _).trans (S1.1.1)) (x_eq C_bit ?_))
    refine w_step a Z rfl (by decide) (by rw [n5]; rfl) (fun M21 a => ?_)
    obtain ⟨wk, wr, wi⟩ := w a
    refine x_gR (w_Az a Z).1.1.1 (w_Az a Z).2.2 (x_gR ((wk e).trans ke) ((congrFun (congrFun wr _) _).trans (R1.2)) (x_aI ((wk _).trans R1.1) h5 (by omega) ((congrFun (congrFun wi _) _).trans (E3.1.2)) ?_))
    refine w_step a Z rfl (by decide) rfl (fun M25 a => ?_)
    obtain ⟨wk, wr, wi⟩ := w a
    refine x_gR (w_Az a Z).1.1.1 (w_Az a Z).2.2 (x_gR ((wk e).trans ke) ((congrFun (congrFun wr _) _).trans (R2.2)) (x_aI ((wk _).trans R2.1) h5 (by omega) ((congrFun (congrFun wi _) _).trans (E3.2)) ?_))
    refine w_step a Z rfl (by decide) rfl (fun M29 a => ?_)
    obtain ⟨wk, wr, wi⟩ := w a
    refine x_gR (w_Az a Z).1.1.1 (w_Az a Z).2.2 (x_gI ((wk s).trans ks) ((congrFun (congrFun wi _) _).trans (S1.1.2)) ?_)
    refine w_step a Z rfl (by decide) rfl (fun M32 a => ?_)
    obtain ⟨wk, wr, wi⟩ := w a
    refine x_gR (w_Az a Z).1.1.1 (w_Az a Z).2.2 (x_gR ((wk s).trans ks) ((congrFun (congrFun wr _) _).trans (r0)) (x_aI ((wk _).trans k1) ix (by omega) ((congrFun (congrFun wi _) _).trans (vs.2 k)) ?_))
    refine x_gO ((wk s).trans ks) (x_eq (C_knowersAs (w_AX a X) h5 (by omega)) (x_eq (C_bitCount (by omega)) ?_))
    refine w_step a Z rfl (by decide) ?_ (fun M39 a => ?_)
    · rw [cn_sc k, if_pos hh]
      show ((s_sc σ h t (hs_m σ) + 1 - 1 : Int32)).toInt64 = (s_sc σ h t (hs_m σ)).toInt64
      congr 1
      have r := (s_sc_r (σ := σ) (h := h) (t := t) (j := hs_m σ) (by omega)).1
      refine Int32.toInt_inj.mp ?_
      have q1 := i_addc (x := s_sc σ h t (hs_m σ)) (c := (1 : Int32)) (n := 1) rfl (by omega) (by omega)
      have q2 := i_subc (x := s_sc σ h t (hs_m σ) + 1) (c := (1 : Int32)) (n := 1) rfl (by omega) (by omega)
      omega
    obtain ⟨wk, wr, wi⟩ := w a
    refine x_gR (w_Az a Z).1.1.1 (w_Az a Z).2.2 (x_gC ((wk s).trans ks) (x_eq (C_knownBy (w_AX a X) h4 hh) (x_eq (C_bitCount (by omega)) ?_)))
    exact w_step a Z rfl (by decide) rfl (fun M44 a => Ok_s a)
  delta F_X5_look F_X5_look_b0
  refine x_gR Z.1.1.1 Z.2.2 ?_
  refine w_step a0 Z rfl (by decide) (by rw [n4]; rfl) (fun M2 a => ?_)
  obtain ⟨wk, wr, wi⟩ := w a
  refine x_gR (w_Az a Z).1.1.1 (w_Az a Z).2.2 ?_
  refine w_step a Z rfl (by decide) (by rw [n5]; rfl) (fun M4 a => ?_)
  obtain ⟨wk, wr, wi⟩ := w a
  refine x_gR (w_Az a Z).1.1.1 (w_Az a Z).2.2 (x_gR ((wk s).trans ks) ((congrFun (congrFun wr _) _).trans (r0)) (x_aI ((wk _).trans k1) ix (by omega) ((congrFun (congrFun wi _) _).trans (vs.2 k)) ?_))
  refine w_step a Z rfl (by decide) rfl (fun M8 a => ?_)
  obtain ⟨wk, wr, wi⟩ := w a
  refine x_gR (w_Az a Z).1.1.1 (w_Az a Z).2.2 (x_gR ((wk s).trans ks) ((congrFun (congrFun wr _) _).trans (r0)) (x_aI ((wk _).trans k1) ix (by omega) ((congrFun (congrFun wi _) _).trans (vs.2 k)) (x_gR ((wk e).trans ke) ((congrFun (congrFun wr _) _).trans (R0.2)) (x_aI ((wk _).trans R0.1) h5 (by omega) ((congrFun (congrFun wi _) _).trans (E3.1.1)) ?_))))
  by_cases c : s_va σ h t = σ (10 + 4 * t)
  · rw [if_pos c]
    exact b67 a (if_pos c).symm
  · rw [if_neg c]
    exact b67 a (if_neg c).symm
