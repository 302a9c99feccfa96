/-! guards; a call of both, as one; YEAR -/
def s_iH (σ : Nat → Int32) (l : Int32) : Bool := decide (0 ≤ l.toInt ∧ l.toInt < (σ 2).toInt)
def s_iT (σ : Nat → Int32) (l : Int32) : Bool := decide (0 ≤ l.toInt ∧ l.toInt < (σ 1).toInt)
theorem s_iH_n {σ : Nat → Int32} {l : Int32} (V : s_V σ) (h : s_iH σ l = true) : ∃ n : Nat, l.toInt = (n : Int) ∧ n < hs_m σ ∧ l.toNatClampNeg = n ∧ l = Int32.ofNat n := by
  have nn := s_Vn V
  have h := of_decide_eq_true h
  refine ⟨l.toInt.toNat, by omega, by omega, i_cl (by omega), i_of (by omega) (by omega)⟩
theorem s_iT_n {σ : Nat → Int32} {l : Int32} (V : s_V σ) (h : s_iT σ l = true) : ∃ n : Nat, l.toInt = (n : Int) ∧ n < hs_n σ ∧ l.toNatClampNeg = n ∧ l = Int32.ofNat n := by
  have nn := s_Vn V
  have h := of_decide_eq_true h
  refine ⟨l.toInt.toNat, by omega, by omega, i_cl (by omega), i_of (by omega) (by omega)⟩
theorem C_isHeirX {M : gM} {s e : Nat} {σ : Nat → Int32} {l : Int32} (k2 : g_k M 2 = (11, 0)) (r : M.2.2.2 2 11 = some e) (X : k_X M s e σ) : F_X11_isHeir (some 2) l M = some (if s_iH σ l = true then 1 else 0) := by
  obtain ⟨⟨ke, ⟨e6, e7⟩, _⟩, _⟩ := k_XE X
  have z0 : (0 : Int32).toInt = 0 := rfl
  delta F_X11_isHeir F_X11_isHeir_b0 F_X11_isHeir_b19
  unfold s_iH
  by_cases c : l < 0
  · have := i_lt c
    rw [if_pos c, if_neg (by simp; omega)]
  · have := i_nlt c
    rw [if_neg c, t_gR k2 r, Option.bind_some, t_gI ke, Option.bind_some, e7]
    by_cases d : σ 2 ≤ l
    · have := i_le d
      rw [if_pos d, if_neg (by simp; omega)]
    · have := i_nle d
      rw [if_neg d, if_pos (by simp; omega)]
theorem C_isThingX {M : gM} {s e : Nat} {σ : Nat → Int32} {l : Int32} (k2 : g_k M 2 = (11, 0)) (r : M.2.2.2 2 11 = some e) (X : k_X M s e σ) : F_X11_isThing (some 2) l M = some (if s_iT σ l = true then 1 else 0) := by
  obtain ⟨⟨ke, ⟨e6, e7⟩, _⟩, _⟩ := k_XE X
  have z0 : (0 : Int32).toInt = 0 := rfl
  delta F_X11_isThing F_X11_isThing_b0 F_X11_isThing_b19
  unfold s_iT
  by_cases c : l < 0
  · have := i_lt c
    rw [if_pos c, if_neg (by simp; omega)]
  · have := i_nlt c
    rw [if_neg c, t_gR k2 r, Option.bind_some, t_gI ke, Option.bind_some, e6]
    by_cases d : σ 1 ≤ l
    · have := i_le d
      rw [if_pos d, if_neg (by simp; omega)]
    · have := i_nle d
      rw [if_neg d, if_pos (by simp; omega)]
theorem E_isHeirX {M : gM} {σ : Nat → Int32} {l : Int32} (X : e_V M σ) : F_X12_isHeir (some 175) l M = some (if s_iH σ l = true then 1 else 0) := by
  have z0 : (0 : Int32).toInt = 0 := rfl
  delta F_X12_isHeir F_X12_isHeir_b0 F_X12_isHeir_b18
  unfold s_iH
  by_cases c : l < 0
  · have := i_lt c
    rw [if_pos c, if_neg (by simp; omega)]
  · have := i_nlt c
    rw [if_neg c, e_sd X (k := 2) rfl (by decide)]
    by_cases d : σ 2 ≤ l
    · have := i_le d
      rw [if_pos d, if_neg (by simp; omega)]
    · have := i_nle d
      rw [if_neg d, if_pos (by simp; omega)]
theorem E_isThingX {M : gM} {σ : Nat → Int32} {l : Int32} (X : e_V M σ) : F_X12_isThing (some 175) l M = some (if s_iT σ l = true then 1 else 0) := by
  have z0 : (0 : Int32).toInt = 0 := rfl
  delta F_X12_isThing F_X12_isThing_b0 F_X12_isThing_b18
  unfold s_iT
  by_cases c : l < 0
  · have := i_lt c
    rw [if_pos c, if_neg (by simp; omega)]
  · have := i_nlt c
    rw [if_neg c, e_sd X (k := 1) rfl (by decide)]
    by_cases d : σ 1 ≤ l
    · have := i_le d
      rw [if_pos d, if_neg (by simp; omega)]
    · have := i_nle d
      rw [if_neg d, if_pos (by simp; omega)]
theorem E_isHouseX {M : gM} {σ : Nat → Int32} (X : e_V M σ) : F_X12_isHouse (some 175) M = some (if 0 < (σ 0).toInt then 1 else 0) := by
  have z0 : (0 : Int32).toInt = 0 := rfl
  delta F_X12_isHouse F_X12_isHouse_b0
  rw [e_sd X (k := 0) rfl (by decide)]
  by_cases d : σ 0 ≤ 0
  · have := i_le d
    rw [if_pos d, if_neg (by omega)]
  · have := i_nle d
    rw [if_neg d, if_pos (by omega)]
/-- what is known, guarded -/
def s_iK (σ : Nat → Int32) (l1 l2 : Int32) : Bool := (s_iH σ l1 && s_iT σ l2) && s_kn σ l1.toNatClampNeg l2.toNatClampNeg
theorem C_isKnownX {M : gM} {e : Nat} {σ : Nat → Int32} {l1 l2 : Int32} (k2 : g_k M 2 = (11, 0)) (r : M.2.2.2 2 11 = some e) (r5 : M.2.2.2 2 5 = some 9) (X : k_X M 9 e σ) : F_X11_isKnown (some 2) l1 l2 M = some (if s_iK σ l1 l2 = true then 1 else 0) := by
  obtain ⟨_, ⟨⟨ks, k1, k2'⟩, _⟩, ⟨r0, r1⟩, _⟩ := k_XE X
  have nn := s_Vn X.2.2
  delta F_X11_isKnown F_X11_isKnown_b0 F_X11_isKnown_b37
  unfold s_iK
  rw [t_gO k2, Option.bind_some, C_isHeirX k2 r X, Option.bind_some]
  by_cases h : s_iH σ l1 = true
  · rw [if_pos h, if_neg (by decide), C_isThingX k2 r X, Option.bind_some, h, Bool.true_and]
    by_cases t : s_iT σ l2 = true
    · obtain ⟨a, a1, a2, a3, _⟩ := s_iH_n X.2.2 h
      obtain ⟨b, b1, b2, b3, _⟩ := s_iT_n X.2.2 t
      have ix := k_ix a1 b1 (by omega) (by omega)
      rw [if_pos t, if_neg (by decide), t_gR k2 r5, Option.bind_some, t_gR ks r1, Option.bind_some, t_aI k2' (by omega) (by omega), Option.bind_some, i_cl ix, (k_Xst X a2 (by omega)).1, t, Bool.true_and, a3, b3]
      have kp := (k_Xpos X a2 (t := b) (by omega)).1
      by_cases k : s_kn σ a b = true
      · rw [if_neg (fun z => by rw [kp.mp z] at k; cases k), if_pos k]
      · rw [if_pos (kp.mpr (b_ff k)), if_neg k]
    · rw [if_neg t, if_pos rfl, b_ff t, Bool.false_and, if_neg (by decide)]
  · rw [if_neg h, if_pos rfl, b_ff h, Bool.false_and, Bool.false_and, if_neg (by decide)]
theorem k_G_eq {M M' : gM} (G : k_G M) (h1 : M'.1 = M.1) (h2 : M'.2.2.2 = M.2.2.2) : k_G M' := ⟨fun i h0 h => (q_k_of h1).trans (G.1 i h0 h), fun i h0 h h3 k hk => by rw [h2]; exact G.2 i h0 h h3 k hk⟩
/-- the RULE IN FORCE -/
def s_ru (R : Nat → List (Nat × Int32) × List (Nat × Nat × Nat)) (f : Int32) : s_Ru := if f.toInt < 0 then none else some (R f.toNatClampNeg)
theorem k_Z_G {M : gM} (G : k_G M) : k_Z M := ⟨⟨⟨k_kd G (by decide), k_kd G (by decide)⟩, k_kd G (by decide)⟩, k_rf G (by decide), k_rf G (by decide)⟩
theorem k_Y_G {M : gM} (G : k_G M) : k_Y M := ⟨⟨⟨k_kd G (by decide), k_kd G (by decide)⟩, k_kd G (by decide)⟩, k_rf G (by decide), k_rf G (by decide)⟩
theorem C_inForce {M : gM} {rc : Nat} {R : Nat → List (Nat × Int32) × List (Nat × Nat × Nat)} (G : k_G M) (C : w_Cr M rc R) (h6 : rc ≤ 6) (hf : (M.2.1 2 13).toInt < (rc : Int)) : Ok (F_X11_ruleInForce (some 2) M) (fun rl => c_J (s_ru R (M.2.1 2 13)) rl M) := by
  have k2 : g_k M 2 = (11, 0) := k_kd G (by decide)
  have k3 : g_k M 3 = (25, 6) := k_kd G (by decide)
  have z0 : (0 : Int32).toInt = 0 := rfl
  delta F_X11_ruleInForce F_X11_ruleInForce_b0 F_X11_ruleInForce_b30
  rw [t_gI k2, Option.bind_some]
  unfold s_ru
  by_cases c : M.2.1 2 13 < 0
  · have := i_lt c
    rw [if_pos c, if_pos (by omega)]
    exact Ok_s ⟨k_Z_G G, trivial⟩
  · have := i_nlt c
    obtain ⟨t, ht⟩ : ∃ t : Nat, (M.2.1 2 13).toInt = (t : Int) := ⟨(M.2.1 2 13).toInt.toNat, by omega⟩
    obtain ⟨j, js, jm, e3, a, K⟩ := C.2 t (by omega)
    have c1 := C.1
    rw [if_neg c, Option.bind_some, t_gI k2, Option.bind_some, if_neg (fun z => by have := i_le z; omega), t_gR k2 (G_r3 G), Option.bind_some, Option.bind_some, t_aR (w := some j) k3 (by omega) (by omega) (by rw [i_cl ht]; exact e3), Option.bind_some, if_neg (by omega), i_cl ht]
    exact Ok_s ⟨k_Z_G G, js, jm, a, K⟩
theorem E_inForce {M : gM} {σ : Nat → Int32} {sz : Nat} {P I : Nat → Nat → Int32} {rc : Nat} {R : Nat → List (Nat × Int32) × List (Nat × Nat × Nat)} (E : w_E M σ sz P I rc R) (h6 : rc ≤ 6) (hf : (M.2.1 175 21).toInt < (rc : Int)) : e_I (s_ru R (M.2.1 175 21)) M := by
  unfold s_ru
  by_cases c : (M.2.1 175 21).toInt < 0
  · rw [if_pos c]
    exact c
  · obtain ⟨t, ht⟩ : ∃ t : Nat, (M.2.1 175 21).toInt = (t : Int) := ⟨(M.2.1 175 21).toInt.toNat, by omega⟩
    rw [if_neg c, i_cl ht]
    exact ⟨t, by omega, ht, E.2.2.2 t (by omega)⟩
/-- both, side by side, when each does what the cells say -/
theorem lw9_act {L S : Nat} {lo hi lo2 hi2 : Int} {M : gM} {o1 : Option (Int32 × gM)} {o2 : gM → Option (Int32 × gM)} (R : lw9 L M) (z1 : Ok o1 (q_PI q_ba M lo hi)) (z2 : ∀ M1, y_HT M1 → y_W M1 → Ok (o2 M1) (y_PI S M1 lo2 hi2)) (hW : Nat.land S y_wb = 0) (hS : Nat.land S (2 ^ 1 + 2 ^ 2 + 2 ^ 41) = 0) (h6 : Nat.land S (2 ^ 21 + 2 ^ 22 + 2 ^ 59 + 2 ^ 60 + 2 ^ 61) = 0)
    (c : ∀ (e : Nat) (σ : Nat → Int32) (nx sz : Nat) (P I : Nat → Nat → Int32) (rc : Nat) (Rr : Nat → List (Nat × Int32) × List (Nat × Nat × Nat)), w_C M e σ nx sz P I rc Rr → rc ≤ 6 → (M.2.1 2 13).toInt < (rc : Int) → ∃ (w : Int32) (e' : Nat) (σ' : Nat → Int32) (nx' sz' : Nat) (P' I' : Nat → Nat → Int32),
      Ok o1 (fun q => q.1 = w ∧ w_C q.2 e' σ' nx' sz' P' I' rc Rr) ∧ ∀ M1, e_V M1 σ → w_E M1 σ sz P I rc Rr → M1.2.1 175 21 = M.2.1 2 13 → M1.2.1 175 22 = M.2.1 2 14 → Ok (o2 M1) (fun q => q.1 = w ∧ w_E q.2 σ' sz' P' I' rc Rr)) : lw_42 L M o1 o2 := by
  obtain ⟨R8, e, σ, nx, sz, P, I, rc, Rr, C, E⟩ := R
  have W0 := R8.1.1.1.1.2
  have rc2 : (M.2.1 175 2).toInt = (rc : Int) := E.2.2.1
  have H0 := R8.1.1.1.1.1.2
  have r6 : rc ≤ 6 := by
    have := (H0.2.1 175 (by decide) 2).2
    have q : (y_tI 175 2).2 = 6 := rfl
    rw [q] at this
    omega
  have f13 := R8.1.2.1.1
  have f14 := R8.1.2.1.2
  have hf : (M.2.1 2 13).toInt < (rc : Int) := by
    rw [f13, ← rc2]
    exact W0.1.1
  obtain ⟨w, e', σ', nx', sz', P', I', c1, c2⟩ := c e σ nx sz P I rc Rr C r6 hf
  obtain ⟨⟨w1, M1⟩, e1, y1, q1, C1⟩ := Ok_and z1 c1
  dsimp only at q1 C1
  subst q1
  obtain ⟨R1, s1, rr⟩ := lw8_go (S := 0) R8 y1 rfl rfl rfl rfl rfl
  have E1 := w_E_c E rr
  have H1 := R1.1.1.1.1.1.2
  have X1 : e_V M1 σ := ⟨H1, E1.1.1.1, C.1.1.2.1.1.2.2⟩
  obtain ⟨⟨w2, M2⟩, e2, y2, q2, E2⟩ := Ok_and (z2 M1 H1 R1.1.1.1.1.2) (c2 M1 X1 E1 (by rw [rr 175 (by decide)]; exact f13.symm) (by rw [rr 175 (by decide)]; exact f14.symm))
  dsimp only at q2 E2
  subst q2
  obtain ⟨R2, s2⟩ := lw8_gr R1 hW hS h6 y2
  exact ⟨_, M1, M2, ⟨e1, R1.1.1.1, s1⟩, e2, ⟨R2, e', σ', nx', sz', P', I', rc, Rr, w_C_r C1 (lw8_len R1.1.1.1) y2.2.2, E2⟩, s2.trans s1⟩
/-- nothing happens -/
theorem lw9_nil {M : gM} {e : Nat} {σ : Nat → Int32} {nx sz : Nat} {P I : Nat → Nat → Int32} {rc : Nat} {Rr : Nat → List (Nat × Int32) × List (Nat × Nat × Nat)} {w : Int32} {o1 : Option (Int32 × gM)} {o2 : gM → Option (Int32 × gM)} (C : w_C M e σ nx sz P I rc Rr) (h1 : o1 = some (w, M)) (h2 : ∀ M1, e_V M1 σ → w_E M1 σ sz P I rc Rr → o2 M1 = some (w, M1)) : ∃ (w : Int32) (e' : Nat) (σ' : Nat → Int32) (nx' sz' : Nat) (P' I' : Nat → Nat → Int32),
      Ok o1 (fun q => q.1 = w ∧ w_C q.2 e' σ' nx' sz' P' I' rc Rr) ∧ ∀ M1, e_V M1 σ → w_E M1 σ sz P I rc Rr → M1.2.1 175 21 = M.2.1 2 13 → M1.2.1 175 22 = M.2.1 2 14 → Ok (o2 M1) (fun q => q.1 = w ∧ w_E q.2 σ' sz' P' I' rc Rr) :=
  ⟨w, e, σ, nx, sz, P, I, by rw [h1]; exact Ok_s ⟨rfl, C⟩, fun M1 X E _ _ => by rw [h2 M1 X E]; exact Ok_s ⟨rfl, E⟩⟩
theorem w_E_keep {M M' : gM} {σ : Nat → Int32} {sz : Nat} {P I : Nat → Nat → Int32} {rc : Nat} {R : Nat → List (Nat × Int32) × List (Nat × Nat × Nat)} (E : w_E M σ sz P I rc R) (z : (y_HT M' ∧ y_Fr (2 ^ 25 + 2 ^ 52) M M') ∧ (M'.2.1 175 25).toInt = (s_sz sz : Int) ∧ ∀ i, i < s_sz sz → ∀ j, j < 157 → M'.2.1 187 (157 * i + j) = s_kp σ sz P i j) : w_E M' σ (s_sz sz) (s_kp σ sz P) I rc R := by
  obtain ⟨⟨⟨a1, a2⟩, a3⟩, a4, a5, a6⟩ := E
  obtain ⟨⟨H, f⟩, z1, z2⟩ := z
  have e193 := fun q => y_fa (i := 193) f (by decide) (by decide) q
  refine ⟨⟨⟨(funext (fun q => y_fa (i := 185) f (by decide) (by decide) q)).trans a1, z1⟩, z2⟩, fun k hk j hj => (e193 _).trans (a4 k hk j hj), by rw [y_fk (i := 175) (k := 2) f (by decide)]; exact a5, fun t ht => r_rl_m (a6 t ht) f (by decide)⟩
/-- what the class's State of now becomes, all else as it was -/
theorem w_C_now {N : Nat → Prop} {M M' : gM} {e : Nat} {σ σ' : Nat → Int32} {nx sz : Nat} {P I : Nat → Nat → Int32} {rc : Nat} {R : Nat → List (Nat × Int32) × List (Nat × Nat × Nat)} (C : w_C M e σ nx sz P I rc R) (hl : 197 ≤ M.1.length) (f : w_F N M M') (h11 : M'.2.2.2 2 11 = M.2.2.2 2 11) (h12 : M'.2.1 2 12 = M.2.1 2 12) (h1 : ∀ i, N i → i ≠ 3 ∧ i < 19) (X : w_X M' 9 e σ') : w_C M' e σ' nx sz P I rc R := by
  have wh := C.1.1.2.1.2
  refine ⟨⟨⟨by rw [h11]; exact C.1.1.1, X⟩, w_Cp_F C.1.2 hl wh f (fun i z => ?_)⟩, w_Ci_F C.2.1 hl f (fun i z => ?_), w_Cr_F C.2.2 hl f h12 (fun i z => ?_)⟩
  · have := h1 _ z
    omega
  · have := h1 _ z
    omega
  · have := h1 _ z
    omega
/-- behind keep -/
theorem w_C_keep {M M' : gM} {e : Nat} {σ : Nat → Int32} {nx sz : Nat} {P I : Nat → Nat → Int32} {rc : Nat} {R : Nat → List (Nat × Int32) × List (Nat × Nat × Nat)} (C : w_C M e σ nx sz P I rc R) (hl : 197 ≤ M.1.length) (z : ((M'.1 = M.1 ∧ M'.2.2.2 = M.2.2.2) ∧ w_F (fun i => i = 19 ∨ (21 ≤ i ∧ i ≤ 120)) M M' ∧ M'.2.2.1 = M.2.2.1) ∧ w_Cp M' e ((nx + 1) % 20) (s_sz sz) (s_kp σ sz P)) : w_C M' e σ ((nx + 1) % 20) (s_sz sz) (s_kp σ sz P) I rc R := by
  obtain ⟨⟨⟨h1, h2⟩, f, _⟩, Cp⟩ := z
  have wh := C.1.1.2.1.2
  refine ⟨⟨⟨by rw [h2]; exact C.1.1.1, w_X_F C.1.1.2 f (fun j a b z => by omega) (fun j a b z => by unfold w_h at wh; omega)⟩, Cp⟩, w_Ci_F C.2.1 hl f (fun i z => by omega), w_Cr_F C.2.2 hl f ?_ (fun i z => by omega)⟩
  rw [(f.2 2 (by omega) (by omega)).1]
theorem w_hd {e : Nat} (h : w_h e) : (e + 5 < 9 ∨ 9 + 4 < e) ∧ 8 < e := by
  unfold w_h at h
  omega
theorem w_FN {N : Nat → Prop} {M M' : gM} (f : w_F N M M') (hl : 197 ≤ M.1.length) (h : ¬ N 2) : M'.2.1 2 = M.2.1 2 ∧ M'.2.2.2 2 = M.2.2.2 2 := f.2 2 (by omega) h
theorem yr_c {r : s_Ru} {σ : Nat → Int32} (V : s_V σ) {j : Nat} (h1 : 52 ≤ j) (h2 : j < 59) : (s_yr r σ).2 j = σ j := by
  have nn := s_Vn V
  show hs_set (s_ks (s_ag (s_fo σ (s_Ls r σ) (hs_m σ)) (hs_m σ)) (hs_n σ)).2 4 _ j = σ j
  rw [hs_sn (by omega), ks_o (fun k hk => by omega) _ (by omega), ag_o (fun k hk => by omega) _ (by omega), fo_lo h2]
theorem ks_st {σ : Nat → Int32} {t : Nat} : ∀ k, k ≤ 7 → (s_ks σ k).2 (13 + 4 * t) = σ (13 + 4 * t) ∨ ((s_ks σ k).2 (13 + 4 * t) = σ 4 ∧ (σ (13 + 4 * t)).toInt < 0) := by
  intro k
  induction k with
  | zero => intro _; exact Or.inl rfl
  | succ k ih =>
    intro hk
    have ih := ih (by omega)
    have e : s_ks σ (k + 1) = if s_kc (s_ks σ k).2 k = true then ((s_ks σ k).1 + 1, hs_set (s_ks σ k).2 (13 + 4 * k) ((s_ks σ k).2 4)) else s_ks σ k := rfl
    rw [e]
    by_cases c : s_kc (s_ks σ k).2 k = true
    · rw [if_pos c]
      show hs_set (s_ks σ k).2 (13 + 4 * k) ((s_ks σ k).2 4) (13 + 4 * t) = _ ∨ (hs_set (s_ks σ k).2 (13 + 4 * k) ((s_ks σ k).2 4) (13 + 4 * t) = _ ∧ _)
      by_cases ek : t = k
      · subst ek
        rw [hs_se, ks_o (fun q hq => by omega) _ (by omega)]
        refine Or.inr ⟨rfl, ?_⟩
        rcases ih with ih | ih
        · unfold s_kc at c
          rw [Bool.and_eq_true, decide_eq_true_iff, ih] at c
          exact c.1
        · exact ih.2
      · rw [hs_sn (by omega)]
        exact ih
    · rw [if_neg c]
      exact ih
theorem yr_st {r : s_Ru} {σ : Nat → Int32} (V : s_V σ) {t : Nat} (ht : t < 7) : (s_yr r σ).2 (13 + 4 * t) = σ (13 + 4 * t) ∨ ((s_yr r σ).2 (13 + 4 * t) = σ 4 ∧ (σ (13 + 4 * t)).toInt < 0) := by
  have nn := s_Vn V
  have e : (s_yr r σ).2 (13 + 4 * t) = (s_ks (s_ag (s_fo σ (s_Ls r σ) (hs_m σ)) (hs_m σ)) (hs_n σ)).2 (13 + 4 * t) := hs_sn (by omega)
  have b : ∀ j, j < 38 → s_ag (s_fo σ (s_Ls r σ) (hs_m σ)) (hs_m σ) j = σ j := fun j hj => by rw [ag_o (fun k hk => by omega) _ (by omega), fo_lo (by omega)]
  have h := ks_st (σ := s_ag (s_fo σ (s_Ls r σ) (hs_m σ)) (hs_m σ)) (t := t) (hs_n σ) nn.1.2
  rw [b _ (by omega), b 4 (by decide)] at h
  rw [e]
  exact h
theorem s_Q_yr {r : s_Ru} {σ : Nat → Int32} (V : s_V σ) (Q : s_Q σ) (h : (σ 4).toInt < 999) : s_Q (s_yr r σ).2 := by
  unfold s_Q at Q ⊢
  have e := i_addc (x := σ 4) (c := (1 : Int32)) (n := 1) rfl (by omega) (by omega)
  have e' : (σ 4 + 1).toInt = (σ 4).toInt + 1 := e
  rw [yr_4 V, yr_lo V (by decide) (by decide)]
  refine ⟨by omega, Q.2.1, s_Qc_c Q.2.2.1 (yr_lo V (by decide) (by decide)) (fun j h1 h2 => yr_c V h1 h2), ?_⟩
  have nm := yr_nm (r := r) V
  obtain ⟨q1, q2⟩ := Q.2.2.2
  refine ⟨by rw [nm.1]; exact q1, fun t ht => ?_⟩
  rw [nm.1] at ht
  rcases yr_st (r := r) V (t := t) (by omega) with h | ⟨h, _⟩
  · rw [h]
    exact q2 t ht
  · rw [h]
    omega
theorem C_yearX {M : gM} {e : Nat} {σ : Nat → Int32} {nx sz : Nat} {P I : Nat → Nat → Int32} {rc : Nat} {Rr : Nat → List (Nat × Int32) × List (Nat × Nat × Nat)} (G : k_G M) (hl : 197 ≤ M.1.length) (C : w_C M e σ nx sz P I rc Rr) (h6 : rc ≤ 6) (hf : (M.2.1 2 13).toInt < (rc : Int)) (h : 0 < (σ 0).toInt ∧ (σ 4).toInt < 999) : Ok (F_X11_year (some 2) M) (fun q => q.1 = (s_yr (s_ru Rr (M.2.1 2 13)) σ).1 ∧ w_C q.2 e (s_yr (s_ru Rr (M.2.1 2 13)) σ).2 ((nx + 1) % 20) (s_sz sz) (s_kp σ sz P) I rc Rr) := by
  have k2 : g_k M 2 = (11, 0) := k_kd G (by decide)
  have X := C.1.1.2
  have e11 := C.1.1.1
  have ke : g_k M e = (1, 0) := X.1.1.1.1.1
  have ks : g_k M 9 = (8, 0) := X.1.1.1.2.1.1
  have y5 : M.2.1 9 5 = σ 4 := X.1.1.2.1.2.1.1.2
  have z9 : (999 : Int32).toInt = 999 := rfl
  have t5 := X.2.1
  rw [if_pos h.1] at t5
  delta F_X11_year F_X11_year_b0
  refine x_gR k2 e11 (x_gI ke t5 (Ok_e (by decide) (x_gR k2 (G_r5 G) (x_gI ks y5 (Ok_t (Int32.lt_iff_toInt_lt.mpr (by omega)) ?_)))))
  refine x_gR k2 (G_r7 G) (x_gR k2 (G_r5 G) (x_gO (G_k19 G) ?_))
  refine Ok_b (C_keep G X C.1.2 hl) (fun M8 z => ?_)
  have C8 := w_C_keep C hl z
  obtain ⟨⟨⟨h1, h2⟩, f8, _⟩, _⟩ := z
  have G8 := k_G_eq G h1 h2
  have hl8 : 197 ≤ M8.1.length := by rw [h1]; exact hl
  have k8 : g_k M8 2 = (11, 0) := k_kd G8 (by decide)
  have n2 := w_FN f8 hl (by omega)
  have f13 : M8.2.1 2 13 = M.2.1 2 13 := congrFun n2.1 13
  refine x_gR k8 (G_r4 G8) (x_gR k8 C8.1.1.1 (x_gR k8 (G_r5 G8) (x_gO k8 ?_)))
  refine Ok_b (C_inForce G8 C8.2.2 h6 (by rw [f13]; exact hf)) (fun rl J => ?_)
  refine x_gO (G_k4 G8) ?_
  rw [f13] at J
  have X8 := C8.1.1.2
  refine Ok_b (C_year (by decide) (w_hd X8.1.2).2 (w_hd X8.1.2).1 (k_Y_G G8) X8.1.1 X8.2.2.1.1 J) (fun q z => ?_)
  obtain ⟨v15, M16⟩ := q
  obtain ⟨z1, ⟨X16, J16, Y16⟩, f16⟩ := z
  have F16 := w_F_Fy f16
  have n16 := w_FN F16 hl8 (by omega)
  have wh := X8.1.2
  refine Ok_s ⟨z1, w_C_now C8 hl8 F16 (by rw [n16.2]) (by rw [n16.1]) (fun i z => by omega) ⟨⟨X16, wh⟩, ?_, s_Q_yr X8.1.1.2.2 X8.2.2 h.2⟩⟩
  have le : e < M8.1.length := q_kl (by rw [X8.1.1.1.1.1]; decide)
  rw [(F16.2 e le (by unfold w_h at wh; omega)).1, yr_lo X8.1.1.2.2 (by decide) (by decide)]
  exact X8.2.1
theorem lw9_year {L : Nat} {M : gM} (R : lw9 L M) : lw_42 L M (F_X11_year (some 2) M) (F_X12_year (some 175)) := by
  have R8 := R.1
  have G := R8.2
  have hl := lw8_len R8.1.1.1
  refine lw9_act R (S_X11_year R8.1.1.1.1.1.1 R8.1.1.1.2.1.1.1) (fun M1 H W => S_X12_year H W) (by decide) (by decide) (by decide) (fun e σ nx sz P I rc Rr C h6 hf => ?_)
  have X := C.1.1.2
  have k2 : g_k M 2 = (11, 0) := k_kd G (by decide)
  have V := X.1.1.2.2
  have Q := X.2.2.1
  by_cases h0 : 0 < (σ 0).toInt
  · by_cases h9 : (σ 4).toInt < 999
    · refine ⟨_, _, _, _, _, _, _, C_yearX G hl C h6 hf ⟨h0, h9⟩, fun M1 X1 E1 f1 _ => ?_⟩
      delta F_X12_year F_X12_year_b0
      rw [e_gO X1.1, Option.bind_some, E_isHouseX X1, Option.bind_some, if_pos h0, if_neg (by decide), e_sd X1 (k := 4) rfl (by decide), if_neg (fun z => by rw [z] at h9; exact absurd h9 (by decide))]
      refine Ok_b (E_keep X1.1 X1.2.1 E1.1.1.2 E1.1.2) (fun M5 z => ?_)
      have E5 := w_E_keep E1 z
      have H5 := z.1.1
      have f5 := z.1.2
      have X5 : e_V M5 σ := ⟨H5, E5.1.1.1, V⟩
      rw [e_gC H5, Option.bind_some]
      have e21 : M5.2.1 175 21 = M.2.1 2 13 := (y_fk (i := 175) (k := 21) f5 (by decide)).trans f1
      have J := E_inForce E5 h6 (by rw [e21]; exact hf)
      rw [e21] at J
      refine Ok_b (E_year X5 J Q.1) (fun q z => ?_)
      obtain ⟨v7, M8⟩ := q
      exact Ok_s ⟨z.1, w_E_r E5 z.2.2 (by decide) z.2.1.1.2.1⟩
    · refine lw9_nil C (w := -1) ?_ (fun M1 X1 E1 => ?_)
      · have ke : g_k M e = (1, 0) := X.1.1.1.1.1
        have ks : g_k M 9 = (8, 0) := X.1.1.1.2.1.1
        have y5 : M.2.1 9 5 = σ 4 := X.1.1.2.1.2.1.1.2
        have t5 := X.2.1
        rw [if_pos h0] at t5
        have z9 : (999 : Int32).toInt = 999 := rfl
        delta F_X11_year F_X11_year_b0 F_X11_year_b23
        rw [t_gR k2 C.1.1.1, Option.bind_some, t_gI ke, Option.bind_some, t5, if_neg (by decide), t_gR k2 (G_r5 G), Option.bind_some, t_gI ks, Option.bind_some, y5, if_neg (fun z => by have := i_lt z; omega)]
      · delta F_X12_year F_X12_year_b0 F_X12_year_b19
        rw [e_gO X1.1, Option.bind_some, E_isHouseX X1, Option.bind_some, if_pos h0, if_neg (by decide), e_sd X1 (k := 4) rfl (by decide), if_pos (Int32.toInt_inj.mp (by have : (999 : Int32).toInt = 999 := rfl; omega))]
  · refine lw9_nil C (w := -1) ?_ (fun M1 X1 E1 => ?_)
    · have ke : g_k M e = (1, 0) := X.1.1.1.1.1
      have t5 := X.2.1
      rw [if_neg h0] at t5
      delta F_X11_year F_X11_year_b0 F_X11_year_b23
      rw [t_gR k2 C.1.1.1, Option.bind_some, t_gI ke, Option.bind_some, t5, if_pos rfl]
    · delta F_X12_year F_X12_year_b0 F_X12_year_b19
      rw [e_gO X1.1, Option.bind_some, E_isHouseX X1, Option.bind_some, if_neg h0, if_pos rfl]
