/-! of the WAYS: how many, and of whom -/
theorem tw_su_le {F G : Nat → Nat} : ∀ n, (∀ i, i < n → F i ≤ G i) → tw_su F n ≤ tw_su G n := by
  intro n
  induction n with
  | zero => intro _; exact Nat.le_refl _
  | succ n ih =>
    intro h
    exact Nat.add_le_add (ih (fun i hi => h i (by omega))) (h n (by omega))
theorem tw_su_al {F G H : Nat → Nat} : ∀ n, (∀ i, i < n → F i + G i ≤ H i) → tw_su F n + tw_su G n ≤ tw_su H n := by
  intro n
  induction n with
  | zero => intro _; exact Nat.le_refl _
  | succ n ih =>
    intro h
    have a := ih (fun i hi => h i (by omega))
    have b := h n (by omega)
    show (tw_su F n + F n) + (tw_su G n + G n) ≤ tw_su H n + H n
    omega
theorem tw_su_eq {F G : Nat → Nat} : ∀ n, (∀ i, i < n → F i = G i) → tw_su F n = tw_su G n := by
  intro n
  induction n with
  | zero => intro _; rfl
  | succ n ih =>
    intro h
    have a := ih (fun i hi => h i (by omega))
    have b := h n (by omega)
    show tw_su F n + F n = tw_su G n + G n
    rw [a, b]
theorem tw_su_ge {F : Nat → Nat} {i : Nat} : ∀ n, i < n → F i ≤ tw_su F n := by
  intro n
  induction n with
  | zero => intro h; omega
  | succ n ih =>
    intro h
    show F i ≤ tw_su F n + F n
    by_cases e : i = n
    · subst e
      omega
    · have := ih (by omega)
      omega
theorem tw_su_k {F : Nat → Nat} {B : Nat} : ∀ n, (∀ i, i < n → F i ≤ B) → tw_su F n ≤ n * B := by
  intro n
  induction n with
  | zero => intro _; exact Nat.zero_le _
  | succ n ih =>
    intro h
    have a := ih (fun i hi => h i (by omega))
    have b := h n (by omega)
    show tw_su F n + F n ≤ (n + 1) * B
    rw [Nat.succ_mul]
    omega
theorem tw_rn_c {f f' : Nat → Nat} {h : Nat} (e : ∀ j, j ≤ h → f' j = f j) : ∀ (n o : Nat), tw_rn f' h n o = tw_rn f h n o := by
  intro n
  induction n with
  | zero => intro o; rfl
  | succ n ih =>
    intro o
    show (if h < o then false else if o = h then true else tw_rn f' h n (f' o)) = if h < o then false else if o = h then true else tw_rn f h n (f o)
    by_cases c : h < o
    · rw [if_pos c, if_pos c]
    · rw [if_neg c, if_neg c, e o (by omega), ih (f o)]
theorem tw_rn_lt {f : Nat → Nat} {h n o : Nat} (c : h < o) : tw_rn f h n o = false := by
  cases n with
  | zero => rfl
  | succ n => exact if_pos c
theorem tw_ok8 {σ : Nat → Int32} {t h c : Nat} (k : tw_ok σ t h c = true) : c ≤ 8 := by
  by_cases w : tw_wr σ t h = true
  · have := ((tw_ok_w w).mp k).1
    omega
  · have := (tw_ok_n w).mp k
    omega
theorem tw_sm_al {σ : Nat → Int32} {t : Nat} {g1 g2 g3 : (Nat → Nat) → Nat} (hg : ∀ f, g1 f + g2 f ≤ g3 f) : ∀ (k h : Nat) (f : Nat → Nat), tw_sm σ t g1 k h f + tw_sm σ t g2 k h f ≤ tw_sm σ t g3 k h f := by
  intro k
  induction k with
  | zero => intro h f; exact hg f
  | succ k ih =>
    intro h f
    refine tw_su_al 9 (fun c _ => ?_)
    by_cases q : tw_ok σ t h c = true ∧ tw_rn (tw_up f h c) h 7 c = false
    · rw [if_pos q, if_pos q, if_pos q]
      exact ih _ _
    · rw [if_neg q, if_neg q, if_neg q]
      exact Nat.le_refl _
theorem tw_sm_ge {σ : Nat → Int32} {t : Nat} {g : (Nat → Nat) → Nat} {a : Nat → Nat} {m : Nat} (hg : ∀ f', (∀ j, j < m → f' j = a j) → g f' = g a) (ha : ∀ j, j < m → tw_ok σ t j (a j) = true ∧ tw_rn a j 7 (a j) = false) : ∀ (k h : Nat) (f : Nat → Nat), h + k = m → (∀ j, j < h → f j = a j) → g a ≤ tw_sm σ t g k h f := by
  intro k
  induction k with
  | zero =>
    intro h f hk e
    show g a ≤ g f
    rw [hg f (fun j hj => e j (by omega))]
    exact Nat.le_refl _
  | succ k ih =>
    intro h f hk e
    have A := ha h (by omega)
    have e' : ∀ j, j < h + 1 → tw_up f h (a h) j = a j := fun j hj => by
      by_cases ej : j = h
      · rw [ej, tw_up_e]
      · rw [tw_up_n ej]
        exact e j (by omega)
    refine Nat.le_trans ?_ (tw_su_ge (i := a h) 9 (by have := tw_ok8 A.1; omega))
    rw [if_pos ⟨A.1, by rw [tw_rn_c (fun j hj => e' j (by omega))]; exact A.2⟩]
    exact ih (h + 1) _ (by omega) e'
theorem tw_sm_7 {σ : Nat → Int32} {t h0 m : Nat} (h0m : h0 < m) (o7 : ∀ c, tw_ok σ t h0 c = true → c = 7) : ∀ (k h : Nat) (f : Nat → Nat), h + k = m → (h0 < h → f h0 = 7) → tw_sm σ t (tw_is h0 7) k h f = tw_sm σ t (fun _ => 1) k h f := by
  intro k
  induction k with
  | zero =>
    intro h f hk e
    exact if_pos (e (by omega))
  | succ k ih =>
    intro h f hk e
    refine tw_su_eq 9 (fun c _ => ?_)
    by_cases q : tw_ok σ t h c = true ∧ tw_rn (tw_up f h c) h 7 c = false
    · rw [if_pos q, if_pos q]
      refine ih (h + 1) _ (by omega) (fun hj => ?_)
      by_cases eh : h0 = h
      · subst eh
        rw [tw_up_e]
        exact o7 c q.1
      · rw [tw_up_n eh]
        exact e (by omega)
    · rw [if_neg q, if_neg q]
theorem tw_sm_le {σ : Nat → Int32} {t : Nat} : ∀ (k h : Nat) (f : Nat → Nat), tw_sm σ t (fun _ => 1) k h f ≤ 9 ^ k := by
  intro k
  induction k with
  | zero => intro h f; exact Nat.le_refl _
  | succ k ih =>
    intro h f
    have := tw_su_k (F := fun c => if tw_ok σ t h c = true ∧ tw_rn (tw_up f h c) h 7 c = false then tw_sm σ t (fun _ => 1) k (h + 1) (tw_up f h c) else 0) (B := 9 ^ k) 9 (fun c _ => by
      split
      · exact ih _ _
      · exact Nat.zero_le _)
    rw [Nat.pow_succ, Nat.mul_comm]
    exact this
/-- all made it up -/
def tw_a0 (σ : Nat → Int32) (t j : Nat) : Nat := if tw_wr σ t j = true then 7 else 8
theorem tw_a0_r {σ : Nat → Int32} {t j : Nat} : 7 ≤ tw_a0 σ t j := by
  unfold tw_a0
  split <;> omega
theorem tw_a0_ok {σ : Nat → Int32} {t j : Nat} : tw_ok σ t j (tw_a0 σ t j) = true := by
  unfold tw_a0
  by_cases w : tw_wr σ t j = true
  · rw [if_pos w]
    exact (tw_ok_w w).mpr ⟨by decide, tw_ch_iff.mpr (Or.inl rfl)⟩
  · rw [if_neg w]
    exact (tw_ok_n w).mpr rfl
/-- who errs has it of a sharer or not -/
def tw_sh (σ : Nat → Int32) (t h : Nat) : Prop := ∃ c, c < hs_m σ ∧ ((σ (52 + h)).toBitVec.getLsbD c = true ∧ s_va σ c t = s_va σ h t)
theorem tw_said {σ : Nat → Int32} {t h : Nat} (V : s_V σ) (Q : s_Qc σ) (hh : h < hs_m σ) (w : tw_wr σ t h = true) :
    (tw_sm σ t (fun _ => 1) (hs_m σ) 0 (fun _ => 0) ≤ 2000000000 ∧ ∀ of, of < 8 → tw_sm σ t (tw_is h of) (hs_m σ) 0 (fun _ => 0) ≤ 2000000000) ∧ (∀ of, of < 7 → tw_sm σ t (tw_is h of) (hs_m σ) 0 (fun _ => 0) ≠ tw_sm σ t (fun _ => 1) (hs_m σ) 0 (fun _ => 0)) ∧ (tw_sm σ t (tw_is h 7) (hs_m σ) 0 (fun _ => 0) = tw_sm σ t (fun _ => 1) (hs_m σ) 0 (fun _ => 0) ↔ ¬ tw_sh σ t h) := by
  have nn := s_Vn V
  have le := tw_sm_le (σ := σ) (t := t) (hs_m σ) 0 (fun _ => 0)
  have p9 : 9 ^ hs_m σ ≤ 9 ^ 7 := Nat.pow_le_pow_right (by decide) nn.2.2
  have q9 : 9 ^ 7 = 4782969 := rfl
  have cg : ∀ (of : Nat) (a f' : Nat → Nat), (∀ j, j < hs_m σ → f' j = a j) → tw_is h of f' = tw_is h of a := fun of a f' e => by
    unfold tw_is
    rw [e h hh]
  have al : ∀ of, of ≠ 7 → tw_sm σ t (tw_is h of) (hs_m σ) 0 (fun _ => 0) + tw_sm σ t (tw_is h 7) (hs_m σ) 0 (fun _ => 0) ≤ tw_sm σ t (fun _ => 1) (hs_m σ) 0 (fun _ => 0) := fun of o7 => tw_sm_al (fun f => by
    unfold tw_is
    by_cases e : f h = of
    · rw [if_pos e, if_neg (by omega)]
      exact Nat.le_refl _
    · rw [if_neg e]
      split <;> omega) _ _ _
  have b7 : 1 ≤ tw_sm σ t (tw_is h 7) (hs_m σ) 0 (fun _ => 0) := by
    have := tw_sm_ge (σ := σ) (t := t) (g := tw_is h 7) (a := tw_a0 σ t) (m := hs_m σ) (cg 7 _) (fun j hj => ⟨tw_a0_ok, tw_rn_lt (by have := tw_a0_r (σ := σ) (t := t) (j := j); omega)⟩) (hs_m σ) 0 (fun _ => 0) (by omega) (fun j hj => absurd hj (Nat.not_lt_zero j))
    have e : tw_is h 7 (tw_a0 σ t) = 1 := if_pos (if_pos w)
    rw [e] at this
    exact this
  have mono : ∀ of, tw_sm σ t (tw_is h of) (hs_m σ) 0 (fun _ => 0) ≤ tw_sm σ t (fun _ => 1) (hs_m σ) 0 (fun _ => 0) := fun of => by
    have := tw_sm_al (σ := σ) (t := t) (g1 := tw_is h of) (g2 := fun _ => 0) (g3 := fun _ => 1) (fun f => by unfold tw_is; split <;> omega) (hs_m σ) 0 (fun _ => 0)
    omega
  refine ⟨⟨by omega, fun of _ => by have := mono of; omega⟩, fun of o7 => by have := al of (by omega); omega, fun e7 hs => ?_, fun ns => ?_⟩
  · obtain ⟨c0, c1, c2, c3⟩ := hs
    have ne : c0 ≠ h := (Q.2 h c0 hh c2).1.2
    have ge := tw_sm_ge (σ := σ) (t := t) (g := tw_is h c0) (a := fun j => if j = h then c0 else tw_a0 σ t j) (m := hs_m σ) (cg c0 _) (fun j hj => by
      by_cases ej : j = h
      · subst ej
        rw [if_pos rfl]
        refine ⟨(tw_ok_w w).mpr ⟨by omega, tw_ch_iff.mpr (Or.inr ⟨c1, c2, c3⟩)⟩, ?_⟩
        by_cases lt : j < c0
        · exact tw_rn_lt lt
        · show (if j < c0 then false else if c0 = j then true else tw_rn (fun i => if i = j then c0 else tw_a0 σ t i) j 6 (if c0 = j then c0 else tw_a0 σ t c0)) = false
          rw [if_neg lt, if_neg ne, if_neg ne]
          exact tw_rn_lt (by have := tw_a0_r (σ := σ) (t := t) (j := c0); omega)
      · rw [if_neg ej]
        exact ⟨tw_a0_ok, tw_rn_lt (by have := tw_a0_r (σ := σ) (t := t) (j := j); omega)⟩) (hs_m σ) 0 (fun _ => 0) (by omega) (fun j hj => absurd hj (Nat.not_lt_zero j))
    have e : tw_is h c0 (fun j => if j = h then c0 else tw_a0 σ t j) = 1 := if_pos (if_pos rfl)
    rw [e] at ge
    have := al c0 (by omega)
    omega
  · refine tw_sm_7 hh (fun c k => ?_) (hs_m σ) 0 (fun _ => 0) (by omega) (fun z => absurd z (Nat.not_lt_zero h))
    rcases tw_ch_iff.mp ((tw_ok_w w).mp k).2 with y | y
    · exact y
    · exact absurd ⟨c, y⟩ ns
/-! of the class -/
theorem C_sharersX {M : gM} {e a b : Nat} {σ : Nat → Int32} {l1 l2 : Int32} (G : k_G M) (r11 : M.2.2.2 2 11 = some e) (X : k_X M 9 e σ) (a1 : l1.toInt = (a : Int)) (b1 : l2.toInt = (b : Int)) (ha : a < hs_m σ) (hb : b < hs_n σ) : F_X11_sharers (some 2) l1 l2 M = some (if tw_wr σ b a = true then (σ (52 + a) &&& s_bs (fun h => s_kn σ h b && s_va σ h b == s_va σ a b) (hs_m σ)) else 0) := by
  have nn := s_Vn X.2.2
  have k2 := G_k2 G
  obtain ⟨⟨ke, _⟩, ⟨⟨ks, j1, j2⟩, _⟩, ⟨r0, r1⟩, _⟩ := k_XE X
  have R4 : g_k M (e + 5) = (20, 7) ∧ M.2.2.2 e 4 = some (e + 5) := k_XR (i := 4) X (by decide)
  have E4 := X.2.1.1.2.2.2 a (by omega)
  have ix := k_ix a1 b1 (by omega) (by omega)
  have st := k_Xst X ha (t := b) (by omega)
  have er : F_X8_errs (some 9) (some e) l1 l2 M = some (if tw_wr σ b a = true then 1 else 0) := C_errs X a1 b1 ha (by omega)
  delta F_X11_sharers F_X11_sharers_b0
  simp only [t_gR k2 (G_r5 G), t_gR k2 r11, t_gO ks, Option.bind_some, er]
  by_cases w : tw_wr σ b a = true
  · have kn := (tw_wr_iff.mp w).1
    have ai : aI 20 M (some (e + 5)) l1 = some (σ (52 + a)) := by rw [t_aI R4.1 (by omega) (by omega), i_cl a1, E4.2]
    have aj : aI 20 M (some (9 + 1)) (l1 * (7 : Int32) + l2) = some (s_va σ a b) := by rw [t_aI j1 (by omega) (by omega), i_cl ix, st.2 kn]
    rw [if_pos w, if_neg (by decide), if_pos w]
    simp only [t_gR ke R4.2, t_gR ks r0, Option.bind_some, ai, aj, C_knowersAs X b1 (show b < 7 by omega)]
  · rw [if_neg w, if_pos rfl, if_neg w]
theorem tw_sh_0 {σ : Nat → Int32} {a b : Nat} (V : s_V σ) (kn : s_kn σ a b = true) : (σ (52 + a) &&& s_bs (fun h => s_kn σ h b && s_va σ h b == s_va σ a b) (hs_m σ)) = 0 ↔ ¬ tw_sh σ b a := by
  have nn := s_Vn V
  have z : ∀ i, (0 : Int32).toBitVec.getLsbD i = false := fun i => by
    show (0#32).getLsbD i = false
    simp
  have kc : ∀ c, s_va σ c b = s_va σ a b → s_kn σ c b = true := fun c h => by
    unfold s_kn at kn ⊢
    rw [h]
    exact kn
  constructor
  · rintro h ⟨c, c1, c2, c3⟩
    have e := and_get (a := σ (52 + a)) (b := s_bs (fun h => s_kn σ h b && s_va σ h b == s_va σ a b) (hs_m σ)) (i := c)
    rw [h, z c, c2, bs_get (by omega), decide_eq_true c1, kc c c3, beq_iff_eq.mpr c3] at e
    exact absurd e (by decide)
  · intro ns
    refine Int32.toBitVec_inj.mp (BitVec.eq_of_getLsbD_eq (fun i _ => ?_))
    rw [z i, and_get, bs_get (by omega)]
    by_cases c1 : i < hs_m σ
    · by_cases c2 : (σ (52 + a)).toBitVec.getLsbD i = true
      · by_cases c3 : s_va σ i b = s_va σ a b
        · exact absurd ⟨i, c1, c2, c3⟩ ns
        · rw [beq_false_of_ne c3, Bool.and_false, Bool.and_false, Bool.and_false]
      · rw [b_ff c2, Bool.false_and]
    · rw [decide_eq_false c1, Bool.false_and, Bool.and_false]
/-! of both -/
theorem E_taught_L38 {M : gM} {m a : Nat} {K : ((Nat → Nat) → Nat) → Nat} {l1 : Int32} (H : y_HT M) (A : tw_A m M K) (a1 : l1.toInt = (a : Int)) (ha : a < m) (hm : m ≤ 7) (lT : K (fun _ => 1) ≤ 2000000000) (lB : ∀ of, of < 8 → K (tw_is a of) ≤ 2000000000) (n7 : ∀ of, of < 7 → K (tw_is a of) ≠ K (fun _ => 1)) : ∀ (n of : Nat) {l3 : Int32}, l3.toInt = (of : Int) → of ≤ 7 → 8 - of < n → Ok (F_X12_taught_L38 n (some 175) l1 l3 M) (fun q => q.1 = if K (tw_is a 7) = K (fun _ => 1) then -1 else -2) := by
  have z7 : (7 : Int32).toInt = 7 := rfl
  have eT : (Int32.ofNat (K (fun _ => 1))).toInt = _ := i_ofNat lT
  intro n
  induction n with
  | zero => intro of l3 _ _ hn; omega
  | succ n ih =>
    intro of l3 h3 ho hn
    have m8 := i_mulL (c := (8 : Int32)) (x := l1) (n := 8) rfl (by omega) (by omega)
    have ix := i_add (x := (8 : Int32) * l1) (y := l3) (by omega) (by omega)
    have ix' : (((8 : Int32) * l1) + l3).toInt = ((8 * a + of : Nat) : Int) := by omega
    have eB : (Int32.ofNat (K (tw_is a of))).toInt = _ := i_ofNat (lB of (by omega))
    show Ok (F_X12_taught_b38 (F_X12_taught_L38 n) (some 175) l1 l3 M) _
    delta F_X12_taught_b38
    rw [if_neg (fun z => by have := i_lt z; omega), e_gR H (w := 190) rfl (by decide), Option.bind_some, e_aI H (t := 20) (i := 190) (n := 56) rfl (by decide) (by omega) (by omega), Option.bind_some, e_gI H, Option.bind_some, i_cl ix', A.1, A.2 a of ha (by omega)]
    by_cases o7 : of = 7
    · subst o7
      by_cases c : K (tw_is a 7) = K (fun _ => 1)
      · rw [if_pos (by rw [c]), if_pos (Int32.toInt_inj.mp (by omega))]
        exact Ok_s (if_pos c).symm
      · rw [if_neg (fun z => c (by have := i_eq z; omega))]
        cases n with
        | zero => omega
        | succ n =>
          have nx := i_nx h3 (by omega)
          show Ok (F_X12_taught_b38 (F_X12_taught_L38 n) (some 175) l1 (l3 + 1) M) _
          delta F_X12_taught_b38
          rw [if_pos (Int32.lt_iff_toInt_lt.mpr (by omega))]
          exact Ok_s (if_neg c).symm
    · rw [if_neg (fun z => n7 of (by omega) (by have := i_eq z; omega))]
      exact ih (of + 1) (i_nx h3 (by omega)) (by omega) (by omega)
theorem lw9_taught {L : Nat} {M : gM} {l1 l2 : Int32} (R : lw9 L M) : ∃ w M2, F_X11_taught (some 2) l1 l2 M = some w ∧ F_X12_taught (some 175) l1 l2 M = some (w, M2) ∧ lw9 L M2 ∧ M2.2.1 0 = M.2.1 0 := by
  have G := R.1.2
  have k2 := G_k2 G
  refine lw9_rq R (S_X12_taught R.1.1.1.1.1.1.2) (by decide) (by decide) (by decide) (by decide) (by decide) (fun e σ nx sz P I rc Rr C E X2 h6 hf f1 => ?_)
  have X := C.1.1.2
  have V := X.1.1.2.2
  have Q := X.2.2.2.2.1
  have nn := s_Vn V
  have c1 := C_isHeirX (l := l1) k2 C.1.1.1 X.1.1
  have c2 := C_isThingX (l := l2) k2 C.1.1.1 X.1.1
  by_cases kH : s_iH σ l1 = true
  · by_cases kT : s_iT σ l2 = true
    · obtain ⟨a, a1, a2, a3, _⟩ := s_iH_n V kH
      obtain ⟨b, b1, b2, b3, _⟩ := s_iT_n V kT
      obtain ⟨_, ⟨⟨ks, _⟩, _⟩, _⟩ := k_XE X.1.1
      have er : F_X8_errs (some 9) (some e) l1 l2 M = some (if tw_wr σ b a = true then 1 else 0) := C_errs X.1.1 a1 b1 a2 (by omega)
      by_cases w : tw_wr σ b a = true
      · have sa := tw_said V Q a2 w
        have s0 := tw_sh_0 V (tw_wr_iff.mp w).1
        refine ⟨if tw_sm σ b (tw_is a 7) (hs_m σ) 0 (fun _ => 0) = tw_sm σ b (fun _ => 1) (hs_m σ) 0 (fun _ => 0) then -1 else -2, ?_, ?_⟩
        · delta F_X11_taught F_X11_taught_b0
          rw [t_gO k2, Option.bind_some, c1, Option.bind_some, if_pos kH, if_neg (by decide), c2, Option.bind_some, if_pos kT, if_neg (by decide), t_gR k2 (G_r5 G), Option.bind_some, t_gR k2 C.1.1.1, Option.bind_some, t_gO ks, Option.bind_some, er, Option.bind_some, if_pos w, if_neg (by decide), C_sharersX G C.1.1.1 X.1.1 a1 b1 a2 b2, Option.bind_some, if_pos w]
          by_cases sh : tw_sh σ b a
          · rw [if_neg (fun z => s0.mp z sh), if_neg (fun z => sa.2.2.mp z sh)]
          · rw [if_pos (s0.mpr sh), if_pos (sa.2.2.mpr sh)]
        · delta F_X12_taught F_X12_taught_b0
          rw [e_gO X2.1, Option.bind_some, E_isHeirX X2, Option.bind_some, if_pos kH, if_neg (by decide), E_isThingX X2, Option.bind_some, if_pos kT, if_neg (by decide), E_isWrong X2 a1 b1 (by omega) (by omega), Option.bind_some, if_pos w, if_neg (by decide)]
          refine Ok_b (E_gathersWays X2 b1 b2) (fun M5 z => ?_)
          exact E_taught_L38 z.1.1 z.2 a1 a2 nn.2.2 sa.1.1 sa.1.2 sa.2.1 g_fuel 0 (l3 := 0) rfl (by decide) (n_fu (by omega))
      · refine ⟨-3, ?_, ?_⟩
        · delta F_X11_taught F_X11_taught_b0
          rw [t_gO k2, Option.bind_some, c1, Option.bind_some, if_pos kH, if_neg (by decide), c2, Option.bind_some, if_pos kT, if_neg (by decide), t_gR k2 (G_r5 G), Option.bind_some, t_gR k2 C.1.1.1, Option.bind_some, t_gO ks, Option.bind_some, er, Option.bind_some, if_neg w, if_pos rfl]
        · delta F_X12_taught F_X12_taught_b0
          rw [e_gO X2.1, Option.bind_some, E_isHeirX X2, Option.bind_some, if_pos kH, if_neg (by decide), E_isThingX X2, Option.bind_some, if_pos kT, if_neg (by decide), E_isWrong X2 a1 b1 (by omega) (by omega), Option.bind_some, if_neg w, if_pos rfl]
          exact Ok_s rfl
    · refine ⟨-4, ?_, ?_⟩
      · delta F_X11_taught F_X11_taught_b0 F_X11_taught_b16
        rw [t_gO k2, Option.bind_some, c1, Option.bind_some, if_pos kH, if_neg (by decide), c2, Option.bind_some, if_neg kT, if_pos rfl]
      · delta F_X12_taught F_X12_taught_b0 F_X12_taught_b16
        rw [e_gO X2.1, Option.bind_some, E_isHeirX X2, Option.bind_some, if_pos kH, if_neg (by decide), E_isThingX X2, Option.bind_some, if_neg kT, if_pos rfl]
        exact Ok_s rfl
  · refine ⟨-4, ?_, ?_⟩
    · delta F_X11_taught F_X11_taught_b0 F_X11_taught_b16
      rw [t_gO k2, Option.bind_some, c1, Option.bind_some, if_neg kH, if_pos rfl]
    · delta F_X12_taught F_X12_taught_b0 F_X12_taught_b16
      rw [e_gO X2.1, Option.bind_some, E_isHeirX X2, Option.bind_some, if_neg kH, if_pos rfl]
      exact Ok_s rfl
