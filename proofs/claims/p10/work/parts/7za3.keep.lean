/-! an ACT is kept, of both -/
def s_kp (σ : Nat → Int32) (sz : Nat) (P : Nat → Nat → Int32) : Nat → Nat → Int32 := fun i => if sz = 20 then (if i = 19 then σ else P (i + 1)) else (if i = sz then σ else P i)
def s_sz (sz : Nat) : Nat := if sz = 20 then 20 else sz + 1
theorem k_st20 {u : Nat} (hu : u < 20) : 21 + 5 * u ∈ k_sts := by
  unfold k_sts
  exact List.mem_cons_of_mem _ (List.mem_cons_of_mem _ (List.mem_cons_of_mem _ (List.mem_append_left _ (List.mem_map.mpr ⟨u, List.mem_range.mpr hu, rfl⟩))))
theorem k_st4 {u : Nat} (hu : u < 4) : 152 + 6 * u ∈ k_sts := by
  unfold k_sts
  exact List.mem_cons_of_mem _ (List.mem_cons_of_mem _ (List.mem_cons_of_mem _ (List.mem_append_right _ (List.mem_map.mpr ⟨u, List.mem_range.mpr hu, rfl⟩))))
set_option maxRecDepth 100000 in
theorem k_r20 : ((List.range 20).all (fun u => RC_510 20 u == some (21 + 5 * u)) && (f_K 20 == (24, 20))) = true := by decide +kernel
theorem k_ref20 {M : gM} (G : k_G M) {u : Nat} (hu : u < 20) : M.2.2.2 20 u = some (21 + 5 * u) := by
  have h := k_r20
  simp only [Bool.and_eq_true, beq_iff_eq] at h
  have h1 := List.all_eq_true.mp h.1 u (List.mem_range.mpr hu)
  simp only [beq_iff_eq] at h1
  exact (G.2 20 (by decide) (by decide) (by rw [h.2]; decide) u (by rw [h.2]; rfl)).trans h1
theorem G_r0 {M : gM} (G : k_G M) : M.2.2.2 2 0 = some 131 := k_rf G (by decide)
theorem G_r1 {M : gM} (G : k_G M) : M.2.2.2 2 1 = some 136 := k_rf G (by decide)
theorem G_r2 {M : gM} (G : k_G M) : M.2.2.2 2 2 = some 148 := k_rf G (by decide)
theorem G_r3 {M : gM} (G : k_G M) : M.2.2.2 2 3 = some 3 := k_rf G (by decide)
theorem G_r4 {M : gM} (G : k_G M) : M.2.2.2 2 4 = some 4 := k_rf G (by decide)
theorem G_r5 {M : gM} (G : k_G M) : M.2.2.2 2 5 = some 9 := k_rf G (by decide)
theorem G_r6 {M : gM} (G : k_G M) : M.2.2.2 2 6 = some 14 := k_rf G (by decide)
theorem G_r7 {M : gM} (G : k_G M) : M.2.2.2 2 7 = some 19 := k_rf G (by decide)
theorem G_r8 {M : gM} (G : k_G M) : M.2.2.2 2 8 = some 121 := k_rf G (by decide)
theorem G_r9 {M : gM} (G : k_G M) : M.2.2.2 2 9 = some 122 := k_rf G (by decide)
theorem G_r10 {M : gM} (G : k_G M) : M.2.2.2 2 10 = some 123 := k_rf G (by decide)
theorem G_r19 {M : gM} (G : k_G M) : M.2.2.2 19 0 = some 20 := k_rf G (by decide)
theorem G_r123 {M : gM} (G : k_G M) : M.2.2.2 123 0 = some 124 := k_rf G (by decide)
theorem G_k2 {M : gM} (G : k_G M) : g_k M 2 = (11, 0) := k_kd G (by decide)
theorem G_k4 {M : gM} (G : k_G M) : g_k M 4 = (10, 0) := k_kd G (by decide)
theorem G_k19 {M : gM} (G : k_G M) : g_k M 19 = (4, 0) := k_kd G (by decide)
theorem t_aR {t i n : Nat} {j : Int32} {M : gM} {w : Option Nat} (h : g_k M i = (t, n)) (h0 : 0 ≤ j.toInt) (h1 : j.toInt < (n : Int)) (e : M.2.2.2 i j.toNatClampNeg = w) : aR t M (some i) j = some w := by
  unfold aR
  rw [Option.bind_some, if_pos ⟨by rw [h], by rw [h]; exact gin_of h0 h1⟩, e]
/-- a State copied: it says what that one says -/
theorem C_copyX {M : gM} {s s2 e : Nat} {σ : Nat → Int32} (L : k_LS M s) (X : w_X M s2 e σ) (hd : s + 4 < s2 ∨ s2 + 4 < s) (he : ∀ i, e ≤ i → i ≤ e + 5 → ¬ (s ≤ i ∧ i ≤ s + 4)) : Ok (F_X8_copy (some s) (some s2) M) (fun M' => k_Fs s M M' ∧ w_X M' s e σ) := by
  have nn := s_Vn X.1.1.2.2
  refine Ok_w (C_copy L X.1.1.1.2 hd) (fun M' z => ?_)
  obtain ⟨f, z1, z2, z3⟩ := z
  have LE : k_LE M' e := k_LEm X.1.1.1.1 (fun i => q_k_of f.1.1.1) f.1.2
  have E : k_E M' e σ := k_Em X.1.1.2.1.1 (fun i k h1 h2 _ => by rw [f.2 i (by have := he i h1 h2; omega)])
  refine ⟨f, ⟨⟨⟨LE, k_Fs_LS L f⟩, ⟨E, k_S_copy X.1.1.2.1.2 (by omega) z1 z2 z3⟩, X.1.1.2.2⟩, X.1.2⟩, ?_, X.2.2⟩
  rw [f.2 e (by have := he e (by omega) (by omega); omega)]
  exact X.2.1
theorem n_mod {x : Int32} {k : Nat} (h : x.toInt = (k : Int)) : (x - x / (20 : Int32) * (20 : Int32)).toInt = ((k % 20 : Nat) : Int) := by
  rw [i_mod (n := 20) rfl (by decide) (by omega)]
  omega
theorem C_keep {M : gM} {e nx sz : Nat} {σ : Nat → Int32} {P : Nat → Nat → Int32} (G : k_G M) (X : w_X M 9 e σ) (C : w_Cp M e nx sz P) (hl : 197 ≤ M.1.length) : Ok (F_X4_keep (some 19) (some 9) M) (fun M' => ((M'.1 = M.1 ∧ M'.2.2.2 = M.2.2.2) ∧ w_F (fun i => i = 19 ∨ (21 ≤ i ∧ i ≤ 120)) M M' ∧ M'.2.2.1 = M.2.2.1) ∧ w_Cp M' e ((nx + 1) % 20) (s_sz sz) (s_kp σ sz P)) := by
  obtain ⟨⟨⟨c1, c2⟩, cn, cs⟩, cP⟩ := C
  have wh := X.1.2
  have k19 : g_k M 19 = (4, 0) := k_kd G (by decide)
  have k20 : g_k M 20 = (24, 20) := k_kd G (by decide)
  have L := k_LS_of G (k_st20 cn)
  delta F_X4_keep F_X4_keep_b0
  refine x_gR k19 (G_r19 G) (x_gI k19 rfl ?_)
  rw [t_aR (w := some (21 + 5 * nx)) k20 (by omega) (by omega) (by rw [i_cl c1]; exact k_ref20 G cn), Option.bind_some]
  refine x_gO L.1.1 ?_
  refine Ok_b (C_copyX L X (by omega) (fun i h1 h2 => by unfold w_h at wh; omega)) (fun M5 z => ?_)
  obtain ⟨f5, X5⟩ := z
  have hk5 : ∀ i, g_k M5 i = g_k M i := fun i => q_k_of f5.1.1.1
  have e19 : M5.2.1 19 = M.2.1 19 := f5.2 19 (by omega)
  have k5 := (hk5 19).trans k19
  have a1 := i_addc (x := M.2.1 19 1) (c := (1 : Int32)) (n := 1) rfl (by omega) (by omega)
  have m1 := n_mod (x := M.2.1 19 1 + (1 : Int32)) (k := nx + 1) (by omega)
  have a2 := i_addc (x := M.2.1 19 2) (c := (1 : Int32)) (n := 1) rfl (by omega) (by omega)
  refine x_gI k5 (congrFun e19 1) (x_pI k5 (x_gI k5 ((mI_ne (Or.inr (by decide))).trans (congrFun e19 2)) (x_pI k5 (Ok_s ?_))))
  have hM : ∃ Mx, Mx = mI (mI M5 19 1 (M.2.1 19 1 + (1 : Int32) - (M.2.1 19 1 + (1 : Int32)) / (20 : Int32) * (20 : Int32))) 19 2 (if M.2.1 19 2 + (1 : Int32) < (20 : Int32) then M.2.1 19 2 + (1 : Int32) else (20 : Int32)) := ⟨_, rfl⟩
  obtain ⟨Mx, eM⟩ := hM
  rw [← eM]
  have hkx : Mx.1 = M5.1 := by rw [eM]; rfl
  have hrx : Mx.2.2.2 = M5.2.2.2 := by rw [eM]; rfl
  have hlx : Mx.2.2.1 = M5.2.2.1 := by rw [eM]; rfl
  have hix : ∀ i, i ≠ 19 → Mx.2.1 i = M5.2.1 i := fun i hi => by rw [eM]; exact funext (fun q => (mI_ne (Or.inl hi)).trans (mI_ne (Or.inl hi)))
  have e1 : (Mx.2.1 19 1).toInt = (((nx + 1) % 20 : Nat) : Int) := by rw [eM, mI_ne (Or.inr (by decide)), y_mI1]; exact m1
  have z20 : (20 : Int32).toInt = 20 := rfl
  have e2 : (Mx.2.1 19 2).toInt = (s_sz sz : Int) := by
    rw [eM, y_mI1]
    unfold s_sz
    by_cases c : M.2.1 19 2 + (1 : Int32) < (20 : Int32)
    · have := i_lt c
      rw [if_pos c, if_neg (by omega)]
      omega
    · have := i_nlt c
      rw [if_neg c]
      by_cases c2 : sz = 20
      · rw [if_pos c2]
        rfl
      · rw [if_neg c2]
        omega
  have F5 : w_F (fun i => i = 19 ∨ (21 ≤ i ∧ i ≤ 120)) M M5 := w_F_w (w_F_Fs f5) (fun i h => by omega)
  have Fx : w_F (fun i => i = 19) M5 Mx := w_F_of hkx hrx hix
  have F : w_F (fun i => i = 19 ∨ (21 ≤ i ∧ i ≤ 120)) M Mx := w_F_t F5 (w_F_w Fx (fun i h => Or.inl h))
  have ehe : ∀ i, e ≤ i → i ≤ e + 5 → ¬ (i = 19 ∨ (21 ≤ i ∧ i ≤ 120)) := fun i h1 h2 => by unfold w_h at wh; omega
  have old : ∀ i, i < sz → (nx + 20 - sz + i) % 20 ≠ nx → w_X Mx (21 + 5 * ((nx + 20 - sz + i) % 20)) e (P i) := by
    intro i hi hne
    have X1 := w_X_F (cP i hi) (w_F_Fs f5) (fun j a b z => by omega) (fun j a b z => by unfold w_h at wh; omega)
    exact w_X_F X1 Fx (fun j a b z => by omega) (fun j a b z => by unfold w_h at wh; omega)
  have new : w_X Mx (21 + 5 * nx) e σ := w_X_F X5 Fx (fun j a b z => by omega) (fun j a b z => by unfold w_h at wh; omega)
  refine ⟨⟨⟨hkx.trans f5.1.1.1, hrx.trans f5.1.2⟩, F, hlx.trans f5.1.1.2⟩, ⟨⟨e1, e2⟩, by omega, by unfold s_sz; split <;> omega⟩, fun i hi => ?_⟩
  unfold s_sz at hi ⊢
  unfold s_kp
  by_cases c : sz = 20
  · rw [if_pos c] at hi ⊢
    rw [if_pos c]
    by_cases c9 : i = 19
    · rw [if_pos c9, show ((nx + 1) % 20 + 20 - 20 + i) % 20 = nx by omega]
      exact new
    · rw [if_neg c9]
      have := old (i + 1) (by omega) (by omega)
      rw [show (nx + 20 - sz + (i + 1)) % 20 = ((nx + 1) % 20 + 20 - 20 + i) % 20 by omega] at this
      exact this
  · rw [if_neg c] at hi ⊢
    rw [if_neg c]
    by_cases c9 : i = sz
    · rw [if_pos c9, show ((nx + 1) % 20 + 20 - (sz + 1) + i) % 20 = nx by omega]
      exact new
    · rw [if_neg c9]
      have := old i (by omega) (by omega)
      rw [show (nx + 20 - sz + i) % 20 = ((nx + 1) % 20 + 20 - (sz + 1) + i) % 20 by omega] at this
      exact this
/-! the reference: 157 cells copied -/
theorem e_cp {di si db sb S : Nat} {α : Type} {G : Nat → Int32 → gM → Option α} {E : gM → Option α} {M0 : gM} {Q : α → Prop} (hd : y_cs di ∧ di ≠ 175) (hsd : si ≠ di) (hS : S.testBit (y_c di 0) = true) (hSc : ∀ q, y_c di q = y_c di 0)
    (hr : ∀ (M : gM) (k : Nat), y_HT M → k < 157 → y_rg (y_tI di (db + k)) (M.2.1 si (sb + k)))
    (hG : ∀ (n : Nat) (l : Int32) (k : Nat) (M : gM), l.toInt = (k : Int) → k < 157 → y_HT M → (∀ i, i ≠ di → M.2.1 i = M0.2.1 i) → G (n + 1) l M = G n (l + 1) (mI M di (db + k) (M.2.1 si (sb + k))))
    (hE : ∀ (n : Nat) (l : Int32) (M : gM), l.toInt = 157 → G (n + 1) l M = E M)
    (g : ∀ M, y_HT M → y_Fr S M0 M → (∀ i, i ≠ di → M.2.1 i = M0.2.1 i) → M.2.2.1 = M0.2.2.1 → (∀ k, k < 157 → M.2.1 di (db + k) = M0.2.1 si (sb + k)) → (∀ q, ¬ (db ≤ q ∧ q < db + 157) → M.2.1 di q = M0.2.1 di q) → Ok (E M) Q) :
    ∀ (n k : Nat) {l : Int32} {M : gM}, y_HT M → y_Fr S M0 M → (∀ i, i ≠ di → M.2.1 i = M0.2.1 i) → M.2.2.1 = M0.2.2.1 → (∀ j, j < k → M.2.1 di (db + j) = M0.2.1 si (sb + j)) → (∀ q, ¬ (db ≤ q ∧ q < db + k) → M.2.1 di q = M0.2.1 di q) → l.toInt = (k : Int) → k ≤ 157 → 157 - k < n → Ok (G n l M) Q := by
  intro n
  induction n with
  | zero => intro k l M H f o ol c r hl hk hn; omega
  | succ n ih =>
    intro k l M H f o ol c r hl hk hn
    by_cases e : k = 157
    · subst e
      rw [hE n l M hl]
      exact g M H f o ol c r
    · rw [hG n l k M hl (by omega) H o]
      obtain ⟨H1, f1⟩ := y_set (M' := mI M di (db + k) (M.2.1 si (sb + k))) (S := S) H (i := di) (k := db + k) hd.1 rfl rfl y_mI1 (fun j a hj => y_mI2 hj) rfl (hr M k H (by omega)) (by rw [hSc]; exact hS)
      refine ih (k + 1) H1 (y_tr f f1) (fun i hi => ?_) ol (fun j hj => ?_) (fun q hq => ?_) (i_nx hl (by omega)) (by omega) (by omega)
      · exact (funext (fun q => mI_ne (Or.inl hi))).trans (o i hi)
      · by_cases ej : j = k
        · subst ej
          rw [y_mI1, o si hsd]
        · rw [mI_ne (Or.inr (by omega))]
          exact c j (by omega)
      · rw [mI_ne (Or.inr (by omega))]
        exact r q (by omega)
theorem y_c185 {i : Nat} (h : 176 ≤ i ∧ i ≤ 196) (q : Nat) : y_c i q = i - 135 := by
  unfold y_c
  rw [if_neg (by omega), if_pos h]
/-- all but the last go on by one -/
theorem E_shift {M0 : gM} {k52 : Option Nat → gM → Option gM} {Q : gM → Prop} (hk : k52 = fun l0 M => F_X12_keepsAct_b52 l0 M) (h20 : M0.2.1 175 25 = 20)
    (g : ∀ M, y_HT M → y_Fr (2 ^ 25 + 2 ^ 52) M0 M → (∀ i, i ≠ 187 → i ≠ 175 → M.2.1 i = M0.2.1 i) → M.2.1 175 25 = 19 → (∀ j, j < 2983 → M.2.1 187 j = M0.2.1 187 (j + 157)) → Ok (k52 (some 175) M) Q) :
    ∀ (n k : Nat) {l : Int32} {M : gM}, y_HT M → y_Fr (2 ^ 25 + 2 ^ 52) M0 M → (∀ i, i ≠ 187 → M.2.1 i = M0.2.1 i) → (∀ j, j + 157 < k → M.2.1 187 j = M0.2.1 187 (j + 157)) → (∀ j, k ≤ j + 157 → M.2.1 187 j = M0.2.1 187 j) → l.toInt = (k : Int) → 157 ≤ k → k ≤ 3140 → 3140 - k < n → Ok (F_X12_keepsAct_L13 n (some 175) l M) Q := by
  intro n
  induction n with
  | zero => intro k l M H f o c r hl hk1 hk2 hn; omega
  | succ n ih =>
    intro k l M H f o c r hl hk1 hk2 hn
    have z : (3140 : Int32).toInt = 3140 := rfl
    have e25 : M.2.1 175 25 = 20 := (congrFun (o 175 (by decide)) 25).trans h20
    show Ok (F_X12_keepsAct_b13 (F_X12_keepsAct_L13 n) (some 175) l M) Q
    delta F_X12_keepsAct_b13
    by_cases e : k = 3140
    · subst e
      rw [if_pos (Int32.le_iff_toInt_le.mpr (by omega)), e_gI H, Option.bind_some, e_pI H, Option.bind_some, e25]
      obtain ⟨H1, f1⟩ := y_set (M' := mI M 175 25 ((20 : Int32) - (1 : Int32))) (S := 2 ^ 25 + 2 ^ 52) H (i := 175) (k := 25) (by decide) rfl rfl y_mI1 (fun j a hj => y_mI2 hj) rfl (y_in (lo := 0) (hi := 20) rfl (by decide)) (by decide)
      have := g _ H1 (y_tr f f1) (fun i h1 h2 => (funext (fun q => mI_ne (Or.inl h2))).trans (o i h1)) y_mI1 (fun j hj => (mI_ne (Or.inl (by decide))).trans (c j (by omega)))
      rw [hk] at this
      exact this
    · have s1 := i_subc (x := l) (c := (157 : Int32)) (n := 157) rfl (by omega) (by omega)
      have s2 : (l - (157 : Int32)).toNatClampNeg = k - 157 := i_cl (by omega)
      rw [if_neg (fun z => by have := i_le z; omega), e_gR H (w := 187) rfl (by decide), Option.bind_some, Option.bind_some, e_aI H (t := 20) (i := 187) (n := 3140) rfl (by decide) (by omega) (by omega), Option.bind_some, i_cl hl, e_sI H (i := 187) (n := 3140) rfl (by omega) (by omega), Option.bind_some, s2]
      have rg : y_rg (y_tI 187 (k - 157)) (M.2.1 187 k) := by
        have h := H.2.1 187 (by decide) k
        have e : y_tI 187 (k - 157) = y_tI 187 k := by
          show y_tS ((k - 157) % 157) = y_tS (k % 157)
          rw [show (k - 157) % 157 = k % 157 by omega]
        rw [e]
        exact h
      obtain ⟨H1, f1⟩ := y_set (M' := mI M 187 (k - 157) (M.2.1 187 k)) (S := 2 ^ 25 + 2 ^ 52) H (i := 187) (k := k - 157) (by decide) rfl rfl y_mI1 (fun j a hj => y_mI2 hj) rfl rg (by rw [y_c185 (by decide)]; decide)
      have inc : (l + 1).toInt = ((k + 1 : Nat) : Int) := by rw [i_addc (n := 1) rfl (by omega) (by omega)]; omega
      refine ih (k + 1) H1 (y_tr f f1) (fun i hi => (funext (fun q => mI_ne (Or.inl hi))).trans (o i hi)) (fun j hj => ?_) (fun j hj => ?_) inc (by omega) (by omega) (by omega)
      · by_cases ej : j = k - 157
        · rw [ej, y_mI1, r k (by omega), show k - 157 + 157 = k by omega]
        · rw [mI_ne (Or.inr ej)]
          exact c j (by omega)
      · rw [mI_ne (Or.inr (by omega))]
        exact r j (by omega)
theorem y_t187 (u k : Nat) (hk : k < 157) : y_tI 187 (157 * u + k) = y_tI 185 k := by
  show y_tS ((157 * u + k) % 157) = y_tS k
  rw [show (157 * u + k) % 157 = k by omega]
theorem y_t193 (u k : Nat) (hk : k < 157) : y_tI 193 (157 * u + k) = y_tI 185 k := by
  show y_tS ((157 * u + k) % 157) = y_tS k
  rw [show (157 * u + k) % 157 = k by omega]
theorem E_keep52 {M : gM} {sz : Nat} (H : y_HT M) (hz : (M.2.1 175 25).toInt = (sz : Int)) (hs : sz < 20) : Ok (F_X12_keepsAct_b52 (some 175) M) (fun M' => (y_HT M' ∧ y_Fr (2 ^ 25 + 2 ^ 52) M M' ∧ M'.2.2.1 = M.2.2.1) ∧ (M'.2.1 175 25).toInt = ((sz + 1 : Nat) : Int) ∧ (∀ j, j < 157 → M'.2.1 187 (157 * sz + j) = M.2.1 185 j) ∧ ∀ q, ¬ (157 * sz ≤ q ∧ q < 157 * sz + 157) → M'.2.1 187 q = M.2.1 187 q) := by
  have z157 : (157 : Int32).toInt = 157 := rfl
  delta F_X12_keepsAct_b52
  refine e_cp (di := 187) (si := 185) (db := 157 * sz) (sb := 0) (S := 2 ^ 25 + 2 ^ 52) (G := fun n l M => F_X12_keepsAct_L54 n (some 175) l M) (E := fun M => (gI 12 M (some 175) 25).bind fun v1 => (pI 12 M (some 175) 25 (v1 + (1 : Int32))).bind fun M2 => some M2) (M0 := M) ⟨by decide, by decide⟩ (by decide) (by decide) (fun q => by rw [y_c185 (by decide), y_c185 (by decide)]) (fun M1 k H1 hk => ?_) (fun n l k M1 hl hk H1 o => ?_) (fun n l M1 hl => ?_) (fun M1 H1 f1 o1 ol c1 r1 => ?_) g_fuel 0 (l := 0) H (y_rf0 _ _) (fun _ _ => rfl) rfl (fun j hj => absurd hj (Nat.not_lt_zero _)) (fun _ _ => rfl) rfl (Nat.zero_le _) (n_fu (by omega))
  · rw [y_t187 sz k hk, Nat.zero_add]
    exact H1.2.1 185 (by decide) k
  · show F_X12_keepsAct_b54 (F_X12_keepsAct_L54 n) (some 175) l M1 = _
    delta F_X12_keepsAct_b54
    have hz1 : (M1.2.1 175 25).toInt = (sz : Int) := by rw [o 175 (by decide)]; exact hz
    have a1 := i_mulL (c := (157 : Int32)) (x := M1.2.1 175 25) (n := 157) rfl (by omega) (by omega)
    have a2 := i_add (x := (157 : Int32) * M1.2.1 175 25) (y := l) (by omega) (by omega)
    have a3 : ((157 : Int32) * M1.2.1 175 25 + l).toNatClampNeg = 157 * sz + k := i_cl (by omega)
    rw [if_neg (fun z => by have := i_le z; omega), e_gR H1 (w := 187) rfl (by decide), Option.bind_some, e_gI H1, Option.bind_some, e_gR H1 (w := 185) rfl (by decide), Option.bind_some, e_aI H1 (t := 20) (i := 185) (n := 157) rfl (by decide) (by omega) (by omega), Option.bind_some, i_cl hl, e_sI H1 (i := 187) (n := 3140) rfl (by omega) (by omega), Option.bind_some, a3, Nat.zero_add]
  · show F_X12_keepsAct_b54 (F_X12_keepsAct_L54 n) (some 175) l M1 = _
    delta F_X12_keepsAct_b54
    rw [if_pos (Int32.le_iff_toInt_le.mpr (by omega))]
  · have hz1 : (M1.2.1 175 25).toInt = (sz : Int) := by rw [o1 175 (by decide)]; exact hz
    rw [e_gI H1, Option.bind_some, e_pI H1, Option.bind_some, n_inc hz1 (by omega)]
    have on : (Int32.ofNat (sz + 1)).toInt = ((sz + 1 : Nat) : Int) := i_ofNat (by omega)
    obtain ⟨H2, f2⟩ := y_set (M' := mI M1 175 25 (Int32.ofNat (sz + 1))) (S := 2 ^ 25 + 2 ^ 52) H1 (i := 175) (k := 25) (by decide) rfl rfl y_mI1 (fun j a hj => y_mI2 hj) rfl (y_in (lo := 0) (hi := 20) rfl (by omega)) (by decide)
    refine Ok_s ⟨⟨H2, y_tr f1 f2, ol⟩, by rw [y_mI1]; exact on, fun j hj => ?_, fun q hq => ?_⟩
    · rw [mI_ne (Or.inl (by decide)), c1 j hj, Nat.zero_add]
    · rw [mI_ne (Or.inl (by decide)), r1 q hq]
theorem E_keep {M : gM} {σ : Nat → Int32} {sz : Nat} {P : Nat → Nat → Int32} (H : y_HT M) (hs : M.2.1 185 = σ) (hz : (M.2.1 175 25).toInt = (sz : Int)) (hP : ∀ i, i < sz → ∀ j, j < 157 → M.2.1 187 (157 * i + j) = P i j) : Ok (F_X12_keepsAct (some 175) M) (fun M' => (y_HT M' ∧ y_Fr (2 ^ 25 + 2 ^ 52) M M') ∧ (M'.2.1 175 25).toInt = (s_sz sz : Int) ∧ ∀ i, i < s_sz sz → ∀ j, j < 157 → M'.2.1 187 (157 * i + j) = s_kp σ sz P i j) := by
  have h20 : sz ≤ 20 := by
    have := (H.2.1 175 (by decide) 25).2
    have e : (y_tI 175 25).2 = 20 := rfl
    rw [e] at this
    omega
  delta F_X12_keepsAct F_X12_keepsAct_b0
  rw [e_gI H, Option.bind_some]
  have z20 : (20 : Int32).toInt = 20 := rfl
  unfold s_sz s_kp
  by_cases c : sz = 20
  · have e : M.2.1 175 25 = 20 := Int32.toInt_inj.mp (by omega)
    rw [if_pos e, if_pos c]
    simp only [if_pos c]
    refine E_shift (M0 := M) (k52 := fun l0 M => F_X12_keepsAct_b52 l0 M) rfl e (fun M1 H1 f1 o1 e1 c1 => ?_) g_fuel 157 (l := (157 : Int32)) H (y_rf0 _ _) (fun _ _ => rfl) (fun j hj => by omega) (fun _ _ => rfl) rfl (by decide) (by decide) (by have : g_fuel = 1000000000 := rfl; omega)
    refine Ok_w (E_keep52 (sz := 19) H1 (by rw [e1]; rfl) (by decide)) (fun M2 z => ?_)
    obtain ⟨⟨H2, f2, _⟩, z1, z2, z3⟩ := z
    refine ⟨⟨H2, y_tr f1 f2⟩, z1, fun i hi j hj => ?_⟩
    by_cases c9 : i = 19
    · subst c9
      rw [if_pos rfl, z2 j hj, o1 185 (by decide) (by decide), hs]
    · rw [if_neg c9, z3 _ (by omega), c1 _ (by omega), show 157 * i + j + 157 = 157 * (i + 1) + j by omega]
      exact hP (i + 1) (by omega) j hj
  · rw [if_neg (fun e => by rw [e] at hz; omega), if_neg c]
    simp only [if_neg c]
    refine Ok_w (E_keep52 (sz := sz) H hz (by omega)) (fun M2 z => ?_)
    obtain ⟨⟨H2, f2, _⟩, z1, z2, z3⟩ := z
    refine ⟨⟨H2, f2⟩, z1, fun i hi j hj => ?_⟩
    by_cases c9 : i = sz
    · subst c9
      rw [if_pos rfl, z2 j hj, hs]
    · rw [if_neg c9, z3 _ (by omega)]
      exact hP i (by omega) j hj
