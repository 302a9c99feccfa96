/-! class and reference hold the same: what is now, what can be undone, IMAGES, RULES -/
theorem s_V_congr {σ σ' : Nat → Int32} (V : s_V σ) (h : ∀ j, j < 157 → σ' j = σ j) : s_V σ' := by
  have nn := s_Vn V
  obtain ⟨V1, V2, V3, V4⟩ := V
  have h1 := h 1 (by decide)
  have h2 := h 2 (by decide)
  unfold s_V s_va s_st
  rw [h1, h2]
  refine ⟨V1, fun a t ha ht => ?_, fun t ht => ?_, fun a ha => ?_⟩
  · rw [h _ (by omega), h _ (by omega)]
    exact V2 a t ha ht
  · rw [h _ (by omega), h _ (by omega), h _ (by omega), h _ (by omega)]
    exact V3 t ht
  · rw [h _ (by omega), h _ (by omega)]
    exact V4 a ha
theorem k_X_congr {M : gM} {s e : Nat} {σ σ' : Nat → Int32} (X : k_X M s e σ) (h : ∀ j, j < 157 → σ' j = σ j) : k_X M s e σ' := by
  have nn := s_Vn X.2.2
  have V' := s_V_congr X.2.2 h
  obtain ⟨L, ⟨⟨⟨⟨E1, E2⟩, E3⟩, ⟨E4, E5⟩, E6, E7⟩, ⟨⟨S1, S2⟩, S3⟩, S4, S5⟩, V⟩ := X
  have h1 := h 1 (by decide)
  have h2 := h 2 (by decide)
  refine ⟨L, ⟨⟨⟨⟨E1.trans h1.symm, E2.trans h2.symm⟩, E3.trans (h 3 (by decide)).symm⟩, ⟨E4.trans (h 7 (by decide)).symm, E5.trans (h 6 (by decide)).symm⟩, ?_, ?_⟩, ⟨⟨S1.trans (h 8 (by decide)).symm, S2.trans (h 4 (by decide)).symm⟩, S3.trans (h 5 (by decide)).symm⟩, ?_, ?_⟩, V'⟩
  · intro t ht
    rw [h1] at ht
    rw [h _ (by omega), h _ (by omega), h _ (by omega)]
    exact E6 t ht
  · intro a ha
    rw [h2] at ha
    rw [h _ (by omega), h _ (by omega)]
    exact E7 a ha
  · intro a ha
    rw [h2] at ha
    refine ⟨?_, fun t ht => ?_⟩
    · rw [h _ (by omega)]
      exact (S4 a ha).1
    · have := (S4 a ha).2 t ht
      unfold k_c at this ⊢
      rw [h _ (by omega), h _ (by omega)]
      exact this
  · intro t ht
    rw [h1] at ht
    rw [h _ (by omega)]
    exact S5 t ht
/-- numbers that can be -/
def s_Qc (σ : Nat → Int32) : Prop := hs_m σ ≤ 7 ∧ ∀ a b : Nat, a < hs_m σ → (σ (52 + a)).toBitVec.getLsbD b = true → (b < hs_m σ ∧ b ≠ a) ∧ (σ (52 + b)).toBitVec.getLsbD a = true
theorem s_Qc_c {σ σ' : Nat → Int32} (Q : s_Qc σ) (h2 : σ' 2 = σ 2) (h : ∀ j, 52 ≤ j → j < 59 → σ' j = σ j) : s_Qc σ' := by
  have e : hs_m σ' = hs_m σ := by unfold hs_m; rw [h2]
  obtain ⟨q1, q2⟩ := Q
  refine ⟨by rw [e]; exact q1, fun a b ha hb => ?_⟩
  rw [e] at ha ⊢
  rw [h _ (by omega) (by omega)] at hb
  have := q2 a b ha hb
  rw [h (52 + b) (by omega) (by omega)]
  exact this
def s_Qd (σ : Nat → Int32) : Prop := hs_n σ ≤ 7 ∧ ∀ t : Nat, t < hs_n σ → (σ (13 + 4 * t)).toInt ≤ 999
theorem s_Qd_c {σ σ' : Nat → Int32} (Q : s_Qd σ) (h1 : σ' 1 = σ 1) (h : ∀ t, t < 7 → σ' (13 + 4 * t) = σ (13 + 4 * t)) : s_Qd σ' := by
  have e : hs_n σ' = hs_n σ := by unfold hs_n; rw [h1]
  obtain ⟨q1, q2⟩ := Q
  refine ⟨by rw [e]; exact q1, fun t ht => ?_⟩
  rw [e] at ht
  rw [h t (by omega)]
  exact q2 t ht
def s_Q (σ : Nat → Int32) : Prop := (0 ≤ (σ 4).toInt ∧ (σ 4).toInt ≤ 999) ∧ (0 ≤ (σ 5).toInt ∧ (σ 5).toInt ≤ 20) ∧ s_Qc σ ∧ s_Qd σ
theorem s_Q_congr {σ σ' : Nat → Int32} (Q : s_Q σ) (h : ∀ j, j < 157 → σ' j = σ j) : s_Q σ' := by
  unfold s_Q at Q ⊢
  rw [h 4 (by decide), h 5 (by decide)]
  exact ⟨Q.1, Q.2.1, s_Qc_c Q.2.2.1 (h 2 (by decide)) (fun j _ hj => h j (by omega)), s_Qd_c Q.2.2.2 (h 1 (by decide)) (fun t ht => h _ (by omega))⟩
def w_h (e : Nat) : Prop := e = 125 ∨ 196 < e
/-- a House at e, a State at s: they hold the cells -/
def w_X (M : gM) (s e : Nat) (σ : Nat → Int32) : Prop := (k_X M s e σ ∧ w_h e) ∧ (M.2.1 e 5 = if 0 < (σ 0).toInt then 1 else 0) ∧ s_Q σ
theorem w_X_congr {M : gM} {s e : Nat} {σ σ' : Nat → Int32} (X : w_X M s e σ) (h : ∀ j, j < 157 → σ' j = σ j) : w_X M s e σ' := ⟨⟨k_X_congr X.1.1 h, X.1.2⟩, by rw [h 0 (by decide)]; exact X.2.1, s_Q_congr X.2.2 h⟩
/-- frame: all that stood but the places N -/
def w_F (N : Nat → Prop) (M M' : gM) : Prop := (M.1.length ≤ M'.1.length ∧ ∀ i, i < M.1.length → g_k M' i = g_k M i) ∧ ∀ i, i < M.1.length → ¬ N i → M'.2.1 i = M.2.1 i ∧ M'.2.2.2 i = M.2.2.2 i
theorem w_F_r {N : Nat → Prop} {M : gM} : w_F N M M := ⟨⟨Nat.le_refl _, fun _ _ => rfl⟩, fun _ _ _ => ⟨rfl, rfl⟩⟩
theorem w_F_t {N : Nat → Prop} {M M1 M2 : gM} (h1 : w_F N M M1) (h2 : w_F N M1 M2) : w_F N M M2 :=
  ⟨⟨Nat.le_trans h1.1.1 h2.1.1, fun i hi => (h2.1.2 i (Nat.lt_of_lt_of_le hi h1.1.1)).trans (h1.1.2 i hi)⟩, fun i hi hn => ⟨(h2.2 i (Nat.lt_of_lt_of_le hi h1.1.1) hn).1.trans (h1.2 i hi hn).1, (h2.2 i (Nat.lt_of_lt_of_le hi h1.1.1) hn).2.trans (h1.2 i hi hn).2⟩⟩
theorem w_F_w {N N' : Nat → Prop} {M M' : gM} (h : w_F N M M') (hn : ∀ i, N i → N' i) : w_F N' M M' := ⟨h.1, fun i hi n => h.2 i hi (fun z => n (hn i z))⟩
theorem w_F_of {N : Nat → Prop} {M M' : gM} (h1 : M'.1 = M.1) (h2 : M'.2.2.2 = M.2.2.2) (h3 : ∀ i, ¬ N i → M'.2.1 i = M.2.1 i) : w_F N M M' := ⟨⟨by rw [h1]; exact Nat.le_refl _, fun i _ => q_k_of h1⟩, fun i _ hn => ⟨h3 i hn, by rw [h2]⟩⟩
theorem w_F_Fs {s : Nat} {M M' : gM} (f : k_Fs s M M') : w_F (fun i => s ≤ i ∧ i ≤ s + 4) M M' := w_F_of f.1.1.1 f.1.2 (fun i hi => f.2 i (by omega))
theorem w_F_Fy {s : Nat} {M M' : gM} (f : k_Fy s M M') : w_F (fun i => (5 ≤ i ∧ i ≤ 8) ∨ (s ≤ i ∧ i ≤ s + 4)) M M' := w_F_of f.1.1 f.1.2 (fun i hi => (f.2 i (by omega) (by omega)).1)
theorem w_F_mI {N : Nat → Prop} {M : gM} {i k : Nat} {v : Int32} (h : N i) : w_F N M (mI M i k v) := w_F_of rfl rfl (fun j hj => g_up_ne _ _ _ (fun z => hj (by rw [z]; exact h)))
theorem w_F_yr {S : Nat} {N : Nat → Prop} {M M' : gM} (f : y_Fr S M M') (h : ∀ i, y_cs i → N i) : w_F N M M' := w_F_of f.1.1 f.1.2 (fun i hi => (f.2.2 i (fun z => hi (h i z))).1)
theorem w_X_F {N : Nat → Prop} {M M' : gM} {s e : Nat} {σ : Nat → Int32} (X : w_X M s e σ) (f : w_F N M M') (hs : ∀ i, s ≤ i → i ≤ s + 4 → ¬ N i) (he : ∀ i, e ≤ i → i ≤ e + 5 → ¬ N i) : w_X M' s e σ := by
  obtain ⟨⟨⟨⟨LE, LS⟩, ⟨E, S⟩, V⟩, wh⟩, t, Q⟩ := X
  have kl : ∀ {i : Nat} {q : Nat × Nat}, g_k M i = q → q.1 < 90 → i < M.1.length := fun h hq => q_kl (by rw [h]; exact hq)
  have le : ∀ i, e ≤ i → i ≤ e + 5 → i < M.1.length := fun i h1 h2 => by
    by_cases h : i = e
    · rw [h]; exact kl LE.1 (by decide)
    · rw [show i = e + 1 + (i - (e + 1)) by omega]; exact kl (LE.2 (i - (e + 1)) (by omega)).1 (by decide)
  have ls : ∀ i, s ≤ i → i ≤ s + 4 → i < M.1.length := fun i h1 h2 => by
    rcases (by omega : i = s ∨ i = s + 1 ∨ i = s + 2 ∨ i = s + 3 ∨ i = s + 4) with h | h | h | h | h <;> rw [h]
    · exact kl LS.1.1 (by decide)
    · exact kl LS.1.2.1.1 (by decide)
    · exact kl LS.1.2.1.2 (by decide)
    · exact kl LS.1.2.2.1 (by decide)
    · exact kl LS.1.2.2.2 (by decide)
  have ie : ∀ i, e ≤ i → i ≤ e + 5 → g_k M' i = g_k M i ∧ M'.2.1 i = M.2.1 i ∧ M'.2.2.2 i = M.2.2.2 i := fun i h1 h2 => ⟨f.1.2 i (le i h1 h2), f.2 i (le i h1 h2) (he i h1 h2)⟩
  have is : ∀ i, s ≤ i → i ≤ s + 4 → g_k M' i = g_k M i ∧ M'.2.1 i = M.2.1 i ∧ M'.2.2.2 i = M.2.2.2 i := fun i h1 h2 => ⟨f.1.2 i (ls i h1 h2), f.2 i (ls i h1 h2) (hs i h1 h2)⟩
  have e0 := ie e (by omega) (by omega)
  have s0 := is s (by omega) (by omega)
  have s1 := is (s + 1) (by omega) (by omega)
  have s2 := is (s + 2) (by omega) (by omega)
  have s3 := is (s + 3) (by omega) (by omega)
  have s4 := is (s + 4) (by omega) (by omega)
  refine ⟨⟨⟨⟨⟨e0.1.trans LE.1, fun k hk => ?_⟩, ?_⟩, ⟨k_Em E (fun i k h1 h2 _ => by rw [(ie i h1 h2).2.1]), k_Sm S (fun i k h1 h2 => by rw [(is i h1 h2).2.1])⟩, V⟩, wh⟩, by rw [e0.2.1]; exact t, Q⟩
  · rw [(ie (e + 1 + k) (by omega) (by omega)).1, e0.2.2]
    exact LE.2 k hk
  · unfold k_LS at LS ⊢
    rw [s0.1, s1.1, s2.1, s3.1, s4.1, s0.2.2]
    exact LS
/-- what can be undone: a ring -/
def w_Cp (M : gM) (e nx sz : Nat) (P : Nat → Nat → Int32) : Prop := (((M.2.1 19 1).toInt = (nx : Int) ∧ (M.2.1 19 2).toInt = (sz : Int)) ∧ nx < 20 ∧ sz ≤ 20) ∧ ∀ i, i < sz → w_X M (21 + 5 * ((nx + 20 - sz + i) % 20)) e (P i)
/-- IMAGES -/
def w_Ci (M : gM) (I : Nat → Nat → Int32) : Prop := ∀ k, k < 4 → M.2.2.2 (151 + 6 * k) 0 = some (152 + 6 * k) ∧ ∀ e, M.2.2.2 (151 + 6 * k) 1 = some e → w_X M (152 + 6 * k) e (I k)
/-- RULES -/
def w_Cr (M : gM) (rc : Nat) (R : Nat → List (Nat × Int32) × List (Nat × Nat × Nat)) : Prop := (M.2.1 2 12).toInt = (rc : Int) ∧ ∀ t, t < rc → ∃ j js jm, M.2.2.2 3 t = some j ∧ (196 < j ∧ 196 < js ∧ 196 < jm) ∧ k_rl M j js jm (R t).1 (R t).2
def w_C (M : gM) (e : Nat) (σ : Nat → Int32) (nx sz : Nat) (P : Nat → Nat → Int32) (I : Nat → Nat → Int32) (rc : Nat) (R : Nat → List (Nat × Int32) × List (Nat × Nat × Nat)) : Prop := ((M.2.2.2 2 11 = some e ∧ w_X M 9 e σ) ∧ w_Cp M e nx sz P) ∧ w_Ci M I ∧ w_Cr M rc R
def w_E (M : gM) (σ : Nat → Int32) (sz : Nat) (P : Nat → Nat → Int32) (I : Nat → Nat → Int32) (rc : Nat) (R : Nat → List (Nat × Int32) × List (Nat × Nat × Nat)) : Prop := ((M.2.1 185 = σ ∧ (M.2.1 175 25).toInt = (sz : Int)) ∧ ∀ i, i < sz → ∀ j, j < 157 → M.2.1 187 (157 * i + j) = P i j) ∧ (∀ k, k < 4 → ∀ j, j < 157 → M.2.1 193 (157 * k + j) = I k j) ∧ (M.2.1 175 2).toInt = (rc : Int) ∧ ∀ t, t < rc → r_rl M t (R t).1 (R t).2
theorem w_Cp_F {N : Nat → Prop} {M M' : gM} {e nx sz : Nat} {P : Nat → Nat → Int32} (C : w_Cp M e nx sz P) (hl : 197 ≤ M.1.length) (he : w_h e) (f : w_F N M M') (h1 : ∀ i, N i → (i < 19 ∨ i = 20 ∨ 120 < i) ∧ (i < 125 ∨ (130 < i ∧ i < 197))) : w_Cp M' e nx sz P := by
  have e19 := (f.2 19 (by omega) (fun z => by have := h1 _ z; omega)).1
  refine ⟨by rw [e19]; exact C.1, fun i hi => w_X_F (C.2 i hi) f (fun j a b z => ?_) (fun j a b z => ?_)⟩
  · have := h1 _ z
    have := C.1.2
    omega
  · have := h1 _ z
    unfold w_h at he
    omega
theorem w_Ci_F {N : Nat → Prop} {M M' : gM} {I : Nat → Nat → Int32} (C : w_Ci M I) (hl : 197 ≤ M.1.length) (f : w_F N M M') (h1 : ∀ i, N i → (i < 151 ∨ 174 < i) ∧ (i < 125 ∨ (130 < i ∧ i < 197))) : w_Ci M' I := by
  intro k hk
  have e1 := (f.2 (151 + 6 * k) (by omega) (fun z => by have := h1 _ z; omega)).2
  rw [e1]
  refine ⟨(C k hk).1, fun e he => ?_⟩
  have X := (C k hk).2 e he
  refine w_X_F X f (fun j a b z => ?_) (fun j a b z => ?_)
  · have := h1 _ z
    omega
  · have := h1 _ z
    have wh := X.1.2
    unfold w_h at wh
    omega
theorem w_Cr_F {N : Nat → Prop} {M M' : gM} {rc : Nat} {R : Nat → List (Nat × Int32) × List (Nat × Nat × Nat)} (C : w_Cr M rc R) (hl : 197 ≤ M.1.length) (f : w_F N M M') (h12 : M'.2.1 2 12 = M.2.1 2 12) (h1 : ∀ i, N i → i ≠ 3 ∧ i < 197) : w_Cr M' rc R := by
  refine ⟨by rw [h12]; exact C.1, fun t ht => ?_⟩
  obtain ⟨j, js, jm, e3, ⟨a0, a1, a2⟩, K⟩ := C.2 t ht
  have lj : j < M.1.length := q_kl (by rw [K.1.1]; decide)
  have ljs : js < M.1.length := q_kl (by rw [K.2.1.1.1]; show 20 < 90; decide)
  have ljm : jm < M.1.length := q_kl (by rw [K.2.1.1.2]; show 20 < 90; decide)
  have no : ∀ i, 196 < i → ¬ N i := fun i hi z => by have := h1 _ z; omega
  have z3 := f.2 3 (by omega) (fun z => (h1 _ z).1 rfl)
  have zj := f.2 j lj (no j a0)
  have zs := f.2 js ljs (no js a1)
  have zm := f.2 jm ljm (no jm a2)
  refine ⟨j, js, jm, by rw [z3.2]; exact e3, ⟨a0, a1, a2⟩, ?_⟩
  unfold k_rl at K ⊢
  rw [f.1.2 j lj, f.1.2 js ljs, f.1.2 jm ljm, zj.2, zs.1, zm.1]
  exact K
/-- the class stands while only N moves -/
theorem w_C_F {N : Nat → Prop} {M M' : gM} {e : Nat} {σ : Nat → Int32} {nx sz : Nat} {P I : Nat → Nat → Int32} {rc : Nat} {R : Nat → List (Nat × Int32) × List (Nat × Nat × Nat)} (C : w_C M e σ nx sz P I rc R) (hl : 197 ≤ M.1.length) (f : w_F N M M') (h11 : M'.2.2.2 2 11 = M.2.2.2 2 11) (h12 : M'.2.1 2 12 = M.2.1 2 12)
    (h1 : ∀ i, N i → ((i < 9 ∨ 13 < i) ∧ (i < 19 ∨ i = 20 ∨ 120 < i)) ∧ (i < 125 ∨ (130 < i ∧ i < 151) ∨ (174 < i ∧ i < 197)) ∧ i ≠ 3) : w_C M' e σ nx sz P I rc R := by
  obtain ⟨⟨⟨c1, X⟩, Cp⟩, Ci, Cr⟩ := C
  have wh := X.1.2
  refine ⟨⟨⟨by rw [h11]; exact c1, w_X_F X f (fun j a b z => ?_) (fun j a b z => ?_)⟩, w_Cp_F Cp hl wh f (fun i z => ?_)⟩, w_Ci_F Ci hl f (fun i z => ?_), w_Cr_F Cr hl f h12 (fun i z => ?_)⟩
  · have := h1 _ z
    omega
  · have := h1 _ z
    unfold w_h at wh
    omega
  · have := h1 _ z
    omega
  · have := h1 _ z
    omega
  · have := h1 _ z
    omega
/-- the class stands while the reference works -/
theorem w_C_r {S : Nat} {M M' : gM} {e : Nat} {σ : Nat → Int32} {nx sz : Nat} {P I : Nat → Nat → Int32} {rc : Nat} {R : Nat → List (Nat × Int32) × List (Nat × Nat × Nat)} (C : w_C M e σ nx sz P I rc R) (hl : 197 ≤ M.1.length) (f : y_Fr S M M') : w_C M' e σ nx sz P I rc R :=
  w_C_F C hl (w_F_yr (N := y_cs) f (fun _ h => h)) (by rw [f.1.2]) (by rw [(f.2.2 2 (by decide)).1]) (fun i z => by unfold y_cs at z; omega)
/-- the reference stands while the class works -/
theorem w_E_c {M M' : gM} {σ : Nat → Int32} {sz : Nat} {P I : Nat → Nat → Int32} {rc : Nat} {R : Nat → List (Nat × Int32) × List (Nat × Nat × Nat)} (E : w_E M σ sz P I rc R) (r : ∀ i, y_cs i → M'.2.1 i = M.2.1 i) : w_E M' σ sz P I rc R := by
  have sn : ∀ t, y_sn M' t = y_sn M t := fun t => funext (fun j => congrFun (r 177 (by decide)) _)
  unfold w_E r_rl at E ⊢
  simp only [sn, r 175 (by decide), r 179 (by decide), r 180 (by decide), r 185 (by decide), r 187 (by decide), r 193 (by decide)]
  exact E
/-- and while it moves but other things of its own -/
theorem w_E_r {S : Nat} {M M' : gM} {σ σ' : Nat → Int32} {sz : Nat} {P I : Nat → Nat → Int32} {rc : Nat} {R : Nat → List (Nat × Int32) × List (Nat × Nat × Nat)} (E : w_E M σ sz P I rc R) (f : y_Fr S M M') (h : Nat.land S (2 ^ 2 + 2 ^ 25 + 2 ^ 42 + 2 ^ 44 + 2 ^ 45 + 2 ^ 52 + 2 ^ 58) = 0) (hs : M'.2.1 185 = σ') : w_E M' σ' sz P I rc R := by
  obtain ⟨⟨⟨a1, a2⟩, a3⟩, a4, a5, a6⟩ := E
  have e187 := fun q => y_fa (i := 187) f (by decide) (y_dis h (by decide)) q
  have e193 := fun q => y_fa (i := 193) f (by decide) (y_dis h (by decide)) q
  refine ⟨⟨⟨hs, by rw [y_fk (i := 175) (k := 25) f (y_dis h (by decide))]; exact a2⟩, fun i hi j hj => (e187 _).trans (a3 i hi j hj)⟩, fun k hk j hj => (e193 _).trans (a4 k hk j hj), by rw [y_fk (i := 175) (k := 2) f (y_dis h (by decide))]; exact a5, fun t ht => ?_⟩
  have h3 := a6 t ht
  have e1 : M'.2.1 179 = M.2.1 179 := funext (fun q => y_fa (i := 179) f (by decide) (y_dis h (by decide)) q)
  have e2 : M'.2.1 180 = M.2.1 180 := funext (fun q => y_fa (i := 180) f (by decide) (y_dis h (by decide)) q)
  have e3 : y_sn M' t = y_sn M t := y_snf f (y_dis h (by decide)) t
  unfold r_rl at h3 ⊢
  rw [e1, e2, e3]
  exact h3
theorem w_C_congr {M : gM} {e : Nat} {σ σ' : Nat → Int32} {nx sz : Nat} {P I : Nat → Nat → Int32} {rc : Nat} {R : Nat → List (Nat × Int32) × List (Nat × Nat × Nat)} (C : w_C M e σ nx sz P I rc R) (h : ∀ j, j < 157 → σ' j = σ j) : w_C M e σ' nx sz P I rc R := ⟨⟨⟨C.1.1.1, w_X_congr C.1.1.2 h⟩, C.1.2⟩, C.2⟩
def w_P (M : gM) : Prop := ∃ (e : Nat) (σ : Nat → Int32) (nx sz : Nat) (P I : Nat → Nat → Int32) (rc : Nat) (R : Nat → List (Nat × Int32) × List (Nat × Nat × Nat)), w_C M e σ nx sz P I rc R ∧ w_E M σ sz P I rc R
def lw9 (L : Nat) (M : gM) : Prop := lw8 L M ∧ w_P M
/-- calls of both, one behind the other: with the same answer (42), or not asked for (41) -/
def lw_41 (L : Nat) (M : gM) (o1 : Option (Int32 × gM)) (o2 : gM → Option (Int32 × gM)) : Prop := ∃ w1 w2 M1 M2, (o1 = some (w1, M1) ∧ lw_B L M1 ∧ M1.2.1 0 = M.2.1 0) ∧ o2 M1 = some (w2, M2) ∧ lw9 L M2 ∧ M2.2.1 0 = M.2.1 0
def lw_42 (L : Nat) (M : gM) (o1 : Option (Int32 × gM)) (o2 : gM → Option (Int32 × gM)) : Prop := ∃ w M1 M2, (o1 = some (w, M1) ∧ lw_B L M1 ∧ M1.2.1 0 = M.2.1 0) ∧ o2 M1 = some (w, M2) ∧ lw9 L M2 ∧ M2.2.1 0 = M.2.1 0
theorem lw_421 {L : Nat} {M : gM} {o1 : Option (Int32 × gM)} {o2 : gM → Option (Int32 × gM)} (h : lw_42 L M o1 o2) : lw_41 L M o1 o2 := by
  obtain ⟨w, M1, M2, h⟩ := h
  exact ⟨w, w, M1, M2, h⟩
/-- a call of the class that lw8 knows by its frame; then one of the reference -/
theorem lw8_go {b : Nat → Bool} {S L : Nat} {lo hi : Int} {M M1 : gM} {w1 : Int32} (R : lw8 L M) (z : q_PI b M lo hi (w1, M1)) (h1 : b 12 = true) (h2 : b 100 = true) (h3 : b 101 = true) (h13 : b 13 = true) (h14 : b 14 = true) : lw8 L M1 ∧ M1.2.1 0 = M.2.1 0 ∧ (∀ i, y_cs i → M1.2.1 i = M.2.1 i) := by
  have fx := q_Fx_of (a := 151) z.2.2
  exact ⟨⟨⟨lw_cls R.1.1 z.2.1 z.2.2 h1 h2 h3, g6_of R.1.2 (g6_cC R.1.1.1 z.2.2 (g6_b R.1.1.1 z.2.2 h13) (g6_b R.1.1.1 z.2.2 h14)) (g6_cE fx)⟩, lw8_c R.1.1.1 R.2 z.2.2⟩, lw_s_cls fx, lw_rc fx⟩
theorem lw8_gr {S L : Nat} {lo hi : Int} {M M' : gM} {v : Int32} (R : lw8 L M) (hW : Nat.land S y_wb = 0) (hS : Nat.land S (2 ^ 1 + 2 ^ 2 + 2 ^ 41) = 0) (h6 : Nat.land S (2 ^ 21 + 2 ^ 22 + 2 ^ 59 + 2 ^ 60 + 2 ^ 61) = 0) (z : y_PI S M lo hi (v, M')) : lw8 L M' ∧ M'.2.1 0 = M.2.1 0 :=
  ⟨⟨⟨lw_refW R.1.1 z.2.1 z.2.2 hW hS, g6_of R.1.2 (g6_rC z.2.2) (g6_rE z.2.2 h6)⟩, k_Gr R.2 z.2.2⟩, lw_s_ref z.2.2⟩
