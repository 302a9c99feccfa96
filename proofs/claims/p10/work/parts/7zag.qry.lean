/-! what is asked of later YEARS: of both -/
def q_N (i : Nat) : Prop := (5 ≤ i ∧ i ≤ 8) ∨ (14 ≤ i ∧ i ≤ 18) ∨ (122 ≤ i ∧ i ≤ 124)
theorem lw9_qry {L S : Nat} {lo hi lo2 hi2 : Int} {M : gM} {o1 : Option (Int32 × gM)} {o2 : gM → Option (Int32 × gM)} (R : lw9 L M) (z1 : Ok o1 (q_PI q_ba M lo hi)) (z2 : ∀ M1, y_HT M1 → y_W M1 → Ok (o2 M1) (y_PI S M1 lo2 hi2)) (hW : Nat.land S y_wb = 0) (hS : Nat.land S (2 ^ 1 + 2 ^ 2 + 2 ^ 41) = 0) (h6 : Nat.land S (2 ^ 21 + 2 ^ 22 + 2 ^ 59 + 2 ^ 60 + 2 ^ 61) = 0) (h9 : Nat.land S (2 ^ 2 + 2 ^ 25 + 2 ^ 42 + 2 ^ 44 + 2 ^ 45 + 2 ^ 52 + 2 ^ 58) = 0)
    (c : ∀ (e : Nat) (σ : Nat → Int32) (nx sz : Nat) (P I : Nat → Nat → Int32) (rc : Nat) (Rr : Nat → List (Nat × Int32) × List (Nat × Nat × Nat)), w_C M e σ nx sz P I rc Rr → rc ≤ 6 → (M.2.1 2 13).toInt < (rc : Int) → ∃ w : Int32, Ok o1 (fun q => q.1 = w ∧ w_F q_N M q.2) ∧ ∀ M1, e_V M1 σ → w_E M1 σ sz P I rc Rr → M1.2.1 175 21 = M.2.1 2 13 → M1.2.1 175 22 = M.2.1 2 14 → Ok (o2 M1) (fun q => q.1 = w ∧ ∀ j, j < 157 → q.2.2.1 185 j = σ j)) : lw_42 L M o1 o2 := by
  obtain ⟨R8, e, σ, nx, sz, P, I, rc, Rr, C, E⟩ := R
  have W0 := R8.1.1.1.1.2
  have rc2 : (M.2.1 175 2).toInt = (rc : Int) := E.2.2.1
  have H0 := R8.1.1.1.1.1.2
  have r6 : rc ≤ 6 := by
    have := (H0.2.1 175 (by decide) 2).2
    have q : (y_tI 175 2).2 = 6 := rfl
    rw [q] at this
    omega
  have f13 := R8.1.2.1.1
  have f14 := R8.1.2.1.2
  have hf : (M.2.1 2 13).toInt < (rc : Int) := by
    rw [f13, ← rc2]
    exact W0.1.1
  obtain ⟨w, c1, c2⟩ := c e σ nx sz P I rc Rr C r6 hf
  obtain ⟨⟨w1, M1⟩, e1, y1, q1, F1⟩ := Ok_and z1 c1
  dsimp only at q1 F1
  subst q1
  obtain ⟨R1, s1, rr⟩ := lw8_go (S := 0) R8 y1 rfl rfl rfl rfl rfl
  have hl := lw8_len R8.1.1.1
  have n2 := w_FN F1 hl (by unfold q_N; omega)
  have C1 := w_C_F C hl F1 (by rw [n2.2]) (by rw [n2.1]) (fun i z => by unfold q_N at z; omega)
  have E1 := w_E_c E rr
  have H1 := R1.1.1.1.1.1.2
  have X1 : e_V M1 σ := ⟨H1, E1.1.1.1, C.1.1.2.1.1.2.2⟩
  obtain ⟨⟨w2, M2⟩, e2, y2, q2, E2⟩ := Ok_and (z2 M1 H1 R1.1.1.1.1.2) (c2 M1 X1 E1 (by rw [rr 175 (by decide)]; exact f13.symm) (by rw [rr 175 (by decide)]; exact f14.symm))
  dsimp only at q2 E2
  subst q2
  obtain ⟨R2, s2⟩ := lw8_gr R1 hW hS h6 y2
  exact ⟨_, M1, M2, ⟨e1, R1.1.1.1, s1⟩, e2, ⟨R2, e, M2.2.1 185, nx, sz, P, I, rc, Rr, w_C_congr (w_C_r C1 (lw8_len R1.1.1.1) y2.2.2) E2, w_E_r E1 y2.2.2 h9 rfl⟩, s2.trans s1⟩
/-- nothing is asked -/
theorem lw9_qn {M : gM} {σ : Nat → Int32} {sz : Nat} {P I : Nat → Nat → Int32} {rc : Nat} {Rr : Nat → List (Nat × Int32) × List (Nat × Nat × Nat)} {w : Int32} {o1 : Option (Int32 × gM)} {o2 : gM → Option (Int32 × gM)} (h1 : o1 = some (w, M)) (h2 : ∀ M1, e_V M1 σ → o2 M1 = some (w, M1)) : ∃ w : Int32, Ok o1 (fun q => q.1 = w ∧ w_F q_N M q.2) ∧ ∀ M1, e_V M1 σ → w_E M1 σ sz P I rc Rr → M1.2.1 175 21 = M.2.1 2 13 → M1.2.1 175 22 = M.2.1 2 14 → Ok (o2 M1) (fun q => q.1 = w ∧ ∀ j, j < 157 → q.2.2.1 185 j = σ j) :=
  ⟨w, by rw [h1]; exact Ok_s ⟨rfl, w_F_r⟩, fun M1 X E _ _ => by rw [h2 M1 X]; exact Ok_s ⟨rfl, fun j _ => by rw [X.2.1]⟩⟩
/-! kept and laid back -/
theorem E_keeps {M : gM} (H : y_HT M) : Ok (F_X12_keeps (some 175) M) (fun M' => (y_HT M' ∧ y_Fr (2 ^ 53) M M') ∧ M'.2.2.1 = M.2.2.1 ∧ ∀ j, j < 157 → M'.2.1 188 j = M.2.1 185 j) := by
  have z157 : (157 : Int32).toInt = 157 := rfl
  delta F_X12_keeps F_X12_keeps_b0
  refine e_cp (di := 188) (si := 185) (db := 0) (sb := 0) (S := 2 ^ 53) (G := fun n l M => F_X12_keeps_L2 n (some 175) l M) (E := fun M => some M) (M0 := M) ⟨by decide, by decide⟩ (by decide) (by decide) (fun q => by rw [y_c185 (by decide), y_c185 (by decide)]) (fun M1 k H1 hk => ?_) (fun n l k M1 hl hk H1 o => ?_) (fun n l M1 hl => ?_) (fun M1 H1 f1 o1 ol c1 r1 => ?_) g_fuel 0 (l := 0) H (y_rf0 _ _) (fun _ _ => rfl) rfl (fun j hj => absurd hj (Nat.not_lt_zero _)) (fun _ _ => rfl) rfl (Nat.zero_le _) (n_fu (by omega))
  · rw [Nat.zero_add]
    exact H1.2.1 185 (by decide) k
  · show F_X12_keeps_b2 (F_X12_keeps_L2 n) (some 175) l M1 = _
    delta F_X12_keeps_b2
    rw [if_neg (fun z => by have := i_le z; omega), e_gR H1 (w := 188) rfl (by decide), Option.bind_some, e_gR H1 (w := 185) rfl (by decide), Option.bind_some, e_aI H1 (t := 20) (i := 185) (n := 157) rfl (by decide) (by omega) (by omega), Option.bind_some, i_cl hl, e_sI H1 (i := 188) (n := 157) rfl (by omega) (by omega), Option.bind_some, i_cl hl, Nat.zero_add]
  · show F_X12_keeps_b2 (F_X12_keeps_L2 n) (some 175) l M1 = _
    delta F_X12_keeps_b2
    rw [if_pos (Int32.le_iff_toInt_le.mpr (by omega))]
  · refine Ok_s ⟨⟨H1, f1⟩, ol, fun j hj => ?_⟩
    have := c1 j hj
    rw [Nat.zero_add] at this
    exact this
theorem E_lays {M : gM} (H : y_HT M) : Ok (F_X12_laysBack (some 175) M) (fun M' => (y_HT M' ∧ y_Fr (2 ^ 50) M M') ∧ M'.2.2.1 = M.2.2.1 ∧ (∀ j, j < 157 → M'.2.1 185 j = M.2.1 188 j) ∧ ∀ j, ¬ j < 157 → M'.2.1 185 j = M.2.1 185 j) := by
  have z157 : (157 : Int32).toInt = 157 := rfl
  delta F_X12_laysBack F_X12_laysBack_b0
  refine e_cp (di := 185) (si := 188) (db := 0) (sb := 0) (S := 2 ^ 50) (G := fun n l M => F_X12_laysBack_L2 n (some 175) l M) (E := fun M => some M) (M0 := M) ⟨by decide, by decide⟩ (by decide) (by decide) (fun q => by rw [y_c185 (by decide), y_c185 (by decide)]) (fun M1 k H1 hk => ?_) (fun n l k M1 hl hk H1 o => ?_) (fun n l M1 hl => ?_) (fun M1 H1 f1 o1 ol c1 r1 => ?_) g_fuel 0 (l := 0) H (y_rf0 _ _) (fun _ _ => rfl) rfl (fun j hj => absurd hj (Nat.not_lt_zero _)) (fun _ _ => rfl) rfl (Nat.zero_le _) (n_fu (by omega))
  · rw [Nat.zero_add]
    exact H1.2.1 188 (by decide) k
  · show F_X12_laysBack_b2 (F_X12_laysBack_L2 n) (some 175) l M1 = _
    delta F_X12_laysBack_b2
    rw [if_neg (fun z => by have := i_le z; omega), e_gR H1 (w := 185) rfl (by decide), Option.bind_some, e_gR H1 (w := 188) rfl (by decide), Option.bind_some, e_aI H1 (t := 20) (i := 188) (n := 157) rfl (by decide) (by omega) (by omega), Option.bind_some, i_cl hl, e_sI H1 (i := 185) (n := 157) rfl (by omega) (by omega), Option.bind_some, i_cl hl, Nat.zero_add]
  · show F_X12_laysBack_b2 (F_X12_laysBack_L2 n) (some 175) l M1 = _
    delta F_X12_laysBack_b2
    rw [if_pos (Int32.le_iff_toInt_le.mpr (by omega))]
  · refine Ok_s ⟨⟨H1, f1⟩, ol, fun j hj => ?_, fun j hj => r1 j (by omega)⟩
    have := c1 j hj
    rw [Nat.zero_add] at this
    exact this
theorem kw_hi {σ : Nat → Int32} {h t j : Nat} {a v : Int32} (hh : h < 7) (ht : t < 7) (hj : 157 ≤ j) : s_kw σ h t a v j = σ j := kw_o (by omega) (by omega)
theorem f1_hi {σ : Nat → Int32} {L : Nat → Nat → Int32} {h t j : Nat} (hh : h < 7) (ht : t < 7) (hj : 157 ≤ j) : s_f1 σ L h t j = σ j := by
  unfold s_f1
  split
  · exact kw_hi hh ht hj
  · rfl
theorem fh_hi {σ : Nat → Int32} {L : Nat → Nat → Int32} {h j : Nat} (hh : h < 7) (hj : 157 ≤ j) : ∀ k, k ≤ 7 → s_fh σ L h k j = σ j := by
  intro k
  induction k with
  | zero => intro _; rfl
  | succ k ih => intro hk; exact (f1_hi hh (by omega) hj).trans (ih (by omega))
theorem fo_hi {σ : Nat → Int32} {L : Nat → Nat → Int32} {j : Nat} (hn : hs_n σ ≤ 7) (hj : 157 ≤ j) : ∀ k, k ≤ 7 → s_fo σ L k j = σ j := by
  intro k
  induction k with
  | zero => intro _; rfl
  | succ k ih => intro hk; exact (fh_hi (by omega) hj _ hn).trans (ih (by omega))
theorem yr_hi {r : s_Ru} {σ : Nat → Int32} (V : s_V σ) {j : Nat} (hj : 157 ≤ j) : (s_yr r σ).2 j = σ j := by
  have nn := s_Vn V
  show hs_set (s_ks (s_ag (s_fo σ (s_Ls r σ) (hs_m σ)) (hs_m σ)) (hs_n σ)).2 4 _ j = σ j
  rw [hs_sn (by omega), ks_o (fun k hk => by omega) _ (by omega), ag_o (fun k hk => by omega) _ (by omega), fo_hi nn.1.2 hj _ nn.2.2]
/-- the reference while it is asked: the cells as they go on, what was kept -/
def e_Q (r : s_Ru) (ρ : Nat → Int32) (M : gM) (σ : Nat → Int32) : Prop := (e_V M σ ∧ e_I r M) ∧ (∀ j, j < 157 → M.2.1 188 j = ρ j) ∧ ∀ j, 157 ≤ j → σ j = ρ j
theorem E_q_keeps {M : gM} {σ : Nat → Int32} {r : s_Ru} (X : e_V M σ) (I : e_I r M) : Ok (F_X12_keeps (some 175) M) (fun M' => e_Q r σ M' σ ∧ M'.2.2.1 = M.2.2.1) := by
  refine Ok_w (E_keeps X.1) (fun M' z => ?_)
  obtain ⟨⟨H, f⟩, l, k⟩ := z
  exact ⟨⟨⟨e_V_fr X H f (by decide), e_I_m I f (by decide)⟩, fun j hj => by rw [k j hj, X.2.1], fun _ _ => rfl⟩, l⟩
theorem E_q_lays {M : gM} {σ ρ : Nat → Int32} {r : s_Ru} (Vρ : s_V ρ) (Q : e_Q r ρ M σ) : Ok (F_X12_laysBack (some 175) M) (fun M' => e_Q r ρ M' ρ ∧ M'.2.2.1 = M.2.2.1) := by
  refine Ok_w (E_lays Q.1.1.1) (fun M' z => ?_)
  obtain ⟨⟨H, f⟩, l, k1, k2⟩ := z
  refine ⟨⟨⟨⟨H, funext (fun j => ?_), Vρ⟩, e_I_m Q.1.2 f (by decide)⟩, fun j hj => by rw [y_fa (i := 188) f (by decide) (by decide) j]; exact Q.2.1 j hj, fun _ _ => rfl⟩, l⟩
  by_cases c : j < 157
  · rw [k1 j c]
    exact Q.2.1 j c
  · rw [k2 j c, Q.1.1.2.1]
    exact Q.2.2 j (by omega)
theorem E_q_year {M : gM} {σ ρ : Nat → Int32} {r : s_Ru} (Q : e_Q r ρ M σ) (hy : 0 ≤ (σ 4).toInt) : Ok (F_X12_passes (some 175) M) (fun q => q.1 = (s_yr r σ).1 ∧ e_Q r ρ q.2 (s_yr r σ).2) := by
  refine Ok_w (E_year Q.1.1 Q.1.2 hy) (fun q z => ?_)
  obtain ⟨z1, ⟨X, I⟩, f⟩ := z
  exact ⟨z1, ⟨X, I⟩, fun j hj => by rw [y_fa (i := 188) f (by decide) (by decide) j]; exact Q.2.1 j hj, fun j hj => (yr_hi Q.1.1.2.2 hj).trans (Q.2.2 j hj)⟩
/-! YEARS, one by one -/
noncomputable def s_ny (r : s_Ru) (σ : Nat → Int32) : Nat → Nat → Int32
  | 0 => σ
  | k + 1 => (s_yr r (s_ny r σ k)).2
theorem ny_i {r : s_Ru} {σ : Nat → Int32} (V : s_V σ) (hy : 0 ≤ (σ 4).toInt ∧ (σ 4).toInt ≤ 999) : ∀ k, k ≤ 10000 → (s_V (s_ny r σ k) ∧ (s_ny r σ k 4).toInt = (σ 4).toInt + k) ∧ ∀ j, j < 10 → j ≠ 4 → s_ny r σ k j = σ j := by
  intro k
  induction k with
  | zero => intro _; exact ⟨⟨V, by show (σ 4).toInt = (σ 4).toInt + 0; omega⟩, fun _ _ _ => rfl⟩
  | succ k ih =>
    intro hk
    obtain ⟨⟨a1, a2⟩, a3⟩ := ih (by omega)
    refine ⟨⟨yr_Vx a1 (by omega), ?_⟩, fun j h1 h2 => (yr_lo a1 h1 h2).trans (a3 j h1 h2)⟩
    show ((s_yr r (s_ny r σ k)).2 4).toInt = _
    rw [yr_4 a1, i_addc (n := 1) rfl (by omega) (by omega)]
    omega
theorem ny_nm {r : s_Ru} {σ : Nat → Int32} (V : s_V σ) (hy : 0 ≤ (σ 4).toInt ∧ (σ 4).toInt ≤ 999) {k : Nat} (hk : k ≤ 10000) : hs_n (s_ny r σ k) = hs_n σ ∧ hs_m (s_ny r σ k) = hs_m σ := nm_of (fun j hj => (ny_i V hy k hk).2 j (by omega) (by omega))
/-! the class while it is asked: the State later -/
def q_F (M0 M : gM) : Prop := (M.1 = M0.1 ∧ M.2.2.2 = M0.2.2.2) ∧ ∀ i, ¬ (5 ≤ i ∧ i ≤ 8) → ¬ (14 ≤ i ∧ i ≤ 18) → M.2.1 i = M0.2.1 i
theorem q_F_r {M : gM} : q_F M M := ⟨⟨rfl, rfl⟩, fun _ _ _ => rfl⟩
theorem q_F_t {M M1 M2 : gM} (h1 : q_F M M1) (h2 : q_F M1 M2) : q_F M M2 := ⟨⟨h2.1.1.trans h1.1.1, h2.1.2.trans h1.1.2⟩, fun i a b => (h2.2 i a b).trans (h1.2 i a b)⟩
theorem q_F_s {M M' : gM} (h : k_Fs 14 M M') : q_F M M' := ⟨⟨h.1.1.1, h.1.2⟩, fun i _ b => h.2 i (by omega)⟩
theorem q_F_y {M M' : gM} (h : k_Fy 14 M M') : q_F M M' := ⟨h.1, fun i a b => (h.2 i a (by omega)).1⟩
theorem q_F_w {M M' : gM} (h : q_F M M') : w_F q_N M M' := w_F_of h.1.1 h.1.2 (fun i hi => h.2 i (by unfold q_N at hi; omega) (by unfold q_N at hi; omega))
def q_C (M0 M : gM) (e : Nat) (σ : Nat → Int32) : Prop := q_F M0 M ∧ k_X M 14 e σ
def q_B (M0 : gM) (e : Nat) (r : s_Ru) (ρ : Nat → Int32) : Prop := ((k_G M0 ∧ 197 ≤ M0.1.length) ∧ M0.2.2.2 2 11 = some e ∧ w_X M0 9 e ρ) ∧ ∃ (rc : Nat) (Rr : Nat → List (Nat × Int32) × List (Nat × Nat × Nat)), (w_Cr M0 rc Rr ∧ rc ≤ 6) ∧ (M0.2.1 2 13).toInt < (rc : Int) ∧ r = s_ru Rr (M0.2.1 2 13)
theorem q_B_of {M : gM} {e : Nat} {σ : Nat → Int32} {nx sz : Nat} {P I : Nat → Nat → Int32} {rc : Nat} {Rr : Nat → List (Nat × Int32) × List (Nat × Nat × Nat)} (G : k_G M) (hl : 197 ≤ M.1.length) (C : w_C M e σ nx sz P I rc Rr) (h6 : rc ≤ 6) (hf : (M.2.1 2 13).toInt < (rc : Int)) : q_B M e (s_ru Rr (M.2.1 2 13)) σ := ⟨⟨⟨G, hl⟩, C.1.1⟩, rc, Rr, ⟨C.2.2, h6⟩, hf, rfl⟩
theorem q_G {M0 M : gM} {e : Nat} {r : s_Ru} {ρ : Nat → Int32} (B : q_B M0 e r ρ) (f : q_F M0 M) : (k_G M ∧ M.2.2.2 2 11 = some e) ∧ w_X M 9 e ρ := by
  have wh := B.1.2.2.1.2
  exact ⟨⟨k_G_eq B.1.1.1 f.1.1 f.1.2, by rw [f.1.2]; exact B.1.2.1⟩, w_X_F B.1.2.2 (q_F_w f) (fun j a b z => by unfold q_N at z; omega) (fun j a b z => by unfold q_N at z; unfold w_h at wh; omega)⟩
/-- later becomes as it is now -/
theorem C_q_copy {M0 M : gM} {e : Nat} {r : s_Ru} {ρ : Nat → Int32} (B : q_B M0 e r ρ) (f : q_F M0 M) : Ok (F_X8_copy (some 14) (some 9) M) (fun M' => q_C M0 M' e ρ) := by
  obtain ⟨⟨G, r11⟩, X⟩ := q_G B f
  have wh := X.1.2
  refine Ok_w (C_copyX (k_LS_of G (s := 14) (by decide)) X (by omega) (fun i a b => by unfold w_h at wh; omega)) (fun M' z => ?_)
  exact ⟨q_F_t f (q_F_s z.1), z.2.1.1⟩
theorem C_q_rule {M0 M : gM} {e : Nat} {r : s_Ru} {ρ : Nat → Int32} (B : q_B M0 e r ρ) (f : q_F M0 M) : Ok (F_X11_ruleInForce (some 2) M) (fun rl => c_J r rl M) := by
  obtain ⟨⟨G, r11⟩, X⟩ := q_G B f
  obtain ⟨⟨⟨_, hl⟩, _⟩, rc, Rr, ⟨Cr, h6⟩, hf, er⟩ := B
  have i2 : M.2.1 2 = M0.2.1 2 := f.2 2 (by omega) (by omega)
  have Cr' := w_Cr_F Cr hl (q_F_w f) (by rw [i2]) (fun i z => by unfold q_N at z; omega)
  have := C_inForce G Cr' h6 (by rw [i2]; exact hf)
  rw [i2] at this
  rw [er]
  exact this
/-- a YEAR later -/
theorem C_q_year {M0 M : gM} {e : Nat} {r : s_Ru} {ρ σ : Nat → Int32} {rl : Option Nat} (B : q_B M0 e r ρ) (Q : q_C M0 M e σ) (hy : 0 ≤ (σ 4).toInt) (J : c_J r rl M) : Ok (F_X10_pass (some 4) (some e) (some 14) rl M) (fun q => q_C M0 q.2 e (s_yr r σ).2) := by
  have wh := B.1.2.2.1.2
  have G := (q_G B Q.1).1.1
  refine Ok_w (C_year (s := 14) (by decide) (by unfold w_h at wh; omega) (by unfold w_h at wh; omega) (k_Y_G G) Q.2 hy J) (fun q z => ?_)
  exact ⟨q_F_t Q.1 (q_F_y z.2.2), z.2.1.1⟩
