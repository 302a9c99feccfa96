/-! the whole text by the reference, and its house() -/
def he_U : Nat := he_A + 2 ^ 14 + 2 ^ 1
def he_Z (r : hs_R) (M0 : gM) : Int32 × gM → Prop := fun w => (y_HT w.2 ∧ y_Fr he_U M0 w.2) ∧ w.2.2.1 175 1 = 0 ∧ (match r with | .inl e => w.1 = 0 ∧ (w.2.2.1 175 9).toInt = (e : Int) | .inr y => w.1 = 1 ∧ w.2.2.1 181 = y.2)
theorem E_hb88 {r : hs_R} {M M0 : gM} (H : y_HT M) (F : y_Fr he_U M0 M) (h : match r with | .inl e => (M.2.1 175 9).toInt = (e : Int) ∧ M.2.1 175 9 ≠ 0 | .inr y => M.2.1 175 9 = 0 ∧ M.2.1 181 = y.2) : Ok (F_X12_readsAll_b88 (some 175) M) (he_Z r M0) := by
  delta F_X12_readsAll_b88
  rw [e_pI H, Option.bind_some]
  obtain ⟨H1, f1⟩ := y_set (M' := mI M 175 1 (0 : Int32)) (S := he_U) H (i := 175) (k := 1) (by decide) rfl rfl y_mI1 (fun j a hj => y_mI2 hj) rfl (y_in (lo := 0) (hi := 400) rfl (by decide)) (by decide)
  have w9 : (mI M 175 1 (0 : Int32)).2.1 175 9 = M.2.1 175 9 := mI_ne (Or.inr (by decide))
  have w1 : (mI M 175 1 (0 : Int32)).2.1 175 1 = 0 := y_mI1
  have w181 : (mI M 175 1 (0 : Int32)).2.1 181 = M.2.1 181 := funext (fun k => mI_ne (Or.inl (by decide)))
  rw [e_gI H1, Option.bind_some, w9]
  cases r with
  | inl e =>
    rw [if_neg h.2]
    exact Ok_s ⟨⟨H1, y_tr F f1⟩, w1, rfl, by rw [w9]; exact h.1⟩
  | inr y =>
    rw [if_pos h.1]
    exact Ok_s ⟨⟨H1, y_tr F f1⟩, w1, rfl, w181.trans h.2⟩
def hs_nx (T : gM) (m cl : Nat) (r : hs_R) : hs_R := match r with
  | .inl e => .inl e
  | .inr y => if k_kind T y.1 = 256 then .inr y else if k_kind T y.1 = 59 then hs_tl T m (cl + 1) (k_go T y.1, y.2) else .inl (1 + 8 * y.1 + 0)
theorem hs_tl_S {T : gM} {m cl : Nat} {x : hS} : hs_tl T (m + 1) cl x = hs_nx T m cl (hs_cl T cl x) := rfl
theorem E_hrd_L35 {T M0 : gM} (B : z_B T) : ∀ (n m cl : Nat) {l1 : Int32} {M : gM} {r : hs_R}, y_HT M → y_Fr he_U M0 M → ((l1 = 0 ∧ ∃ er, r = .inl er ∧ he_Y M er) ∨ (l1 = 1 ∧ ∃ y, r = .inr y ∧ he_R T M y ∧ he_I y.2 (cl + 1) ∧ (M.2.1 175 14).toInt = (cl : Int) ∧ M.2.1 175 11 = 6 ∧ cl ≤ 40)) → 1 ≤ cl → 42 - cl < n → cl + m = 42 → Ok (F_X12_readsAll_L35 n (some 175) l1 M) (he_Z (hs_nx T m cl r) M0) := by
  intro n
  induction n with
  | zero => intro m cl l1 M r H F h h1 a1 hm; omega
  | succ n ih =>
    intro m cl l1 M r H F h hc1 a1 hm
    show Ok (F_X12_readsAll_b35 (F_X12_readsAll_L35 n) (some 175) l1 M) _
    delta F_X12_readsAll_b35
    rcases h with ⟨h, er, e1, Y⟩ | ⟨h, y, e1, R, I, e14, e11, c40⟩
    · subst e1
      rw [if_pos h]
      delta F_X12_readsAll_b66
      rw [if_pos h]
      exact E_hb88 (r := .inl er) H F ⟨Y.2.1, Y.2.2⟩
    · subst e1
      unfold hs_nx
      dsimp only
      have rx := he_x R
      rw [if_neg (by rw [h]; decide)]
      refine e_o R ?_
      refine e_see R (y_rf0 _ _) (fun M3 F3 S3 => ?_)
      dsimp only
      have R3 := S3.1
      have rx3 := he_x R3
      have k59 := k_s1 (T := T) (p := y.1) (c := (59 : Int32)) (n := 59) rfl (by omega) (by omega) (by omega) (by omega)
      have F03 : y_Fr he_U M0 M3 := y_tr F (y_fl (by decide) F3)
      have v8 : M3.2.1 175 8 = Int32.ofNat y.1 := by
        have h := n_x1 R3.1.1
        rw [S3.2] at h
        exact i_of h.1 (by omega)
      have xi : (Int32.ofNat y.1).toInt = (y.1 : Int) := i_ofNat (by omega)
      have f14 : M3.2.1 175 14 = M.2.1 175 14 := y_fk (i := 175) (k := 14) F3 (by decide)
      have f11 : M3.2.1 175 11 = M.2.1 175 11 := y_fk (i := 175) (k := 11) F3 (by decide)
      refine Ok_i (fun e => ?_) (fun e => ?_)
      · have hlt := n_c_lt e (by decide)
        have kk : k_kind T y.1 = 59 := k59.1.mp e
        have kg : n_sk T (y.1 + 1) = k_go T y.1 := (k59.2 e).symm
        rw [if_neg (show ¬ k_kind T y.1 = 256 by rw [kk]; decide), if_pos kk]
        have nx : M3.2.1 175 8 + (1 : Int32) = Int32.ofNat (y.1 + 1) := by rw [v8]; exact n_inc xi (by omega)
        refine e_i R3 rfl ?_
        rw [e_pI R3.1.1, Option.bind_some, nx]
        obtain ⟨F5, R5⟩ := he_at (p := y.1 + 1) R3 (by have := R3.2.1.2; omega)
        rw [kg] at R5
        have F05 : y_Fr he_U M0 (n_at M3 (y.1 + 1)) := y_tr F03 (y_fl (by decide) F5)
        have g14 : (n_at M3 (y.1 + 1)).2.1 175 14 = M3.2.1 175 14 := n_atk (by decide)
        have g11 : (n_at M3 (y.1 + 1)).2.1 175 11 = M3.2.1 175 11 := n_atk (by decide)
        rw [show mI M3 175 8 (Int32.ofNat (y.1 + 1)) = n_at M3 (y.1 + 1) from rfl]
        generalize n_at M3 (y.1 + 1) = M5 at R5 F05 g14 g11 ⊢
        refine e_cx R5 ?_
        refine Ok_b (E_hclauseHere (cl := cl + 1) R5 (by rw [g11, f11]; exact e11) (by rw [g14, f14, e14]; rfl) (by omega) (by omega) I) (fun w z => ?_)
        obtain ⟨v7, M8⟩ := w
        obtain ⟨F8, P8, L8⟩ := z
        dsimp only at F8 P8 L8 ⊢
        obtain ⟨m', rfl⟩ : ∃ m', m = m' + 1 := ⟨m - 1, by omega⟩
        rw [hs_tl_S]
        have F08 : y_Fr he_U M0 M8 := y_tr F05 (y_fl (by decide) F8)
        have i11 : M8.2.1 175 11 = 6 := by rw [y_fk (i := 175) (k := 11) F8 (by decide), g11, f11]; exact e11
        cases hit : hs_cl T (cl + 1) (k_go T y.1, y.2) with
        | inl er =>
          rw [hit] at P8
          exact ih m' (cl + 1) P8.2.1 F08 (Or.inl ⟨P8.1, er, rfl, P8.2⟩) (by omega) (by omega) (by omega)
        | inr y' =>
          rw [hit] at P8
          obtain ⟨J, J40⟩ := hs_cl_I hit (by omega) I
          exact ih m' (cl + 1) P8.2.1.1 F08 (Or.inr ⟨P8.1, y', rfl, P8.2, J, L8 P8.1, i11, J40⟩) (by omega) (by omega) (by omega)
      · have kn : k_kind T y.1 ≠ 59 := mt k59.1.mpr e
        delta F_X12_readsAll_b66
        rw [if_neg (by rw [h]; decide)]
        refine e_o R3 ?_
        refine e_see R3 (y_rf0 _ _) (fun M4 F4 S4 => ?_)
        dsimp only
        have R4 := S4.1
        have F04 : y_Fr he_U M0 M4 := y_tr F03 (y_fl (by decide) F4)
        have v84 : M4.2.1 175 8 = Int32.ofNat y.1 := by
          have h := n_x1 R4.1.1
          rw [S4.2] at h
          exact i_of h.1 (by omega)
        by_cases cE : n_s T ≤ y.1
        · rw [if_pos (show n_c T y.1 = -1 from (n_c_end B).mpr cE), if_pos (show k_kind T y.1 = 256 from (k_256 B).mpr cE)]
          exact E_hb88 (r := .inr y) R4.1.1 F04 ⟨R4.2.2.1.2, R4.2.2.2⟩
        · rw [if_neg (show ¬ n_c T y.1 = -1 from mt (n_c_end B).mp cE), if_neg (show ¬ k_kind T y.1 = 256 from mt (k_256 B).mp cE), if_neg kn]
          refine e_i R4 v84 (e_cx R4 ?_)
          rw [R_fails R4.1.1, Option.bind_some]
          dsimp only
          obtain ⟨a, b⟩ := he_fail (k := 0) (p := Int32.ofNat y.1) (d := 0) R4.1.1 (y_rf0 _ _) R4.2.2.1.2 xi (by omega) rfl (by decide)
          exact E_hb88 (r := .inl _) b.1 (y_tr F04 (y_fl (by decide) a)) ⟨b.2.1, b.2.2⟩
def he_V : Nat := he_U + 2 ^ 43 + 2 ^ 12
def he_ZZ (r : hs_R) (M0 : gM) : Int32 × gM → Prop := fun w => (y_HT w.2 ∧ y_Fr he_V M0 w.2) ∧ w.2.2.1 175 1 = 0 ∧ (match r with | .inl e => w.1 = 0 ∧ (w.2.2.1 175 9).toInt = (e : Int) | .inr y => w.1 = 1 ∧ w.2.2.1 181 = y.2)
theorem E_hreadsAll {T M : gM} {σ : Nat → Int32} (B : z_B T) (H : y_HT M) (e11 : M.2.1 175 11 = 6) (hb : n_b M = n_b T) (hs : n_s M = n_s T) (h181 : M.2.1 181 = σ) (h0 : ∀ k, k < 10 → σ k = 0) : Ok (F_X12_readsAll (some 175) M) (he_ZZ (hs_text T σ) M) := by
  have z6 : (6 : Int32).toInt = 6 := rfl
  delta F_X12_readsAll F_X12_readsAll_b0
  rw [e_gR H (w := 178) rfl (by decide), Option.bind_some, e_gI H, Option.bind_some, e11, e_sI H (i := 178) (n := 7) rfl (by decide) (by decide), Option.bind_some]
  obtain ⟨H3, f3⟩ := y_set (M' := mI M 178 (6 : Int32).toNatClampNeg (0 : Int32)) (S := he_V) H (i := 178) (k := (6 : Int32).toNatClampNeg) (by decide) rfl rfl y_mI1 (fun j a hj => y_mI2 hj) rfl (y_in (lo := 0) (hi := 400) rfl (by decide)) (by decide)
  have r3 : ∀ i k, i ≠ 178 → (mI M 178 (6 : Int32).toNatClampNeg (0 : Int32)).2.1 i k = M.2.1 i k := fun i k h => mI_ne (Or.inl h)
  generalize mI M 178 (6 : Int32).toNatClampNeg (0 : Int32) = M3 at H3 f3 r3 ⊢
  rw [e_pI H3, Option.bind_some]
  obtain ⟨H4, f4⟩ := y_set (M' := mI M3 175 14 (0 : Int32)) (S := he_V) H3 (i := 175) (k := 14) (by decide) rfl rfl y_mI1 (fun j a hj => y_mI2 hj) rfl (y_full rfl) (by decide)
  have w4 : (mI M3 175 14 (0 : Int32)).2.1 175 14 = 0 := y_mI1
  have r4 : ∀ i k, i ≠ 175 ∨ k ≠ 14 → (mI M3 175 14 (0 : Int32)).2.1 i k = M3.2.1 i k := fun i k h => mI_ne h
  generalize mI M3 175 14 (0 : Int32) = M4 at H4 f4 w4 r4 ⊢
  rw [e_pI H4, Option.bind_some]
  obtain ⟨H5, f5⟩ := y_set (M' := mI M4 175 8 (0 : Int32)) (S := he_V) H4 (i := 175) (k := 8) (by decide) rfl rfl y_mI1 (fun j a hj => y_mI2 hj) rfl (y_in (lo := 0) (hi := 400) rfl (by decide)) (by decide)
  have w5 : (mI M4 175 8 (0 : Int32)).2.1 175 8 = 0 := y_mI1
  have r5 : ∀ i k, i ≠ 175 ∨ k ≠ 8 → (mI M4 175 8 (0 : Int32)).2.1 i k = M4.2.1 i k := fun i k h => mI_ne h
  generalize mI M4 175 8 (0 : Int32) = M5 at H5 f5 w5 r5 ⊢
  rw [e_pI H5, Option.bind_some]
  obtain ⟨H6, f6⟩ := y_set (M' := mI M5 175 9 (0 : Int32)) (S := he_V) H5 (i := 175) (k := 9) (by decide) rfl rfl y_mI1 (fun j a hj => y_mI2 hj) rfl (y_full rfl) (by decide)
  have w6 : (mI M5 175 9 (0 : Int32)).2.1 175 9 = 0 := y_mI1
  have r6 : ∀ i k, i ≠ 175 ∨ k ≠ 9 → (mI M5 175 9 (0 : Int32)).2.1 i k = M5.2.1 i k := fun i k h => mI_ne h
  generalize mI M5 175 9 (0 : Int32) = M6 at H6 f6 w6 r6 ⊢
  rw [e_pI H6, Option.bind_some]
  obtain ⟨H7, f7⟩ := y_set (M' := mI M6 175 12 (0 : Int32)) (S := he_V) H6 (i := 175) (k := 12) (by decide) rfl rfl y_mI1 (fun j a hj => y_mI2 hj) rfl (y_in (lo := 0) (hi := 60) rfl (by decide)) (by decide)
  have r7 : ∀ i k, i ≠ 175 ∨ k ≠ 12 → (mI M6 175 12 (0 : Int32)).2.1 i k = M6.2.1 i k := fun i k h => mI_ne h
  generalize mI M6 175 12 (0 : Int32) = M7 at H7 f7 r7 ⊢
  have F7 : y_Fr he_V M M7 := y_tr f3 (y_tr f4 (y_tr f5 (y_tr f6 f7)))
  have e : ∀ i, i ≠ 175 → i ≠ 178 → ∀ k, M7.2.1 i k = M.2.1 i k := fun i h1 h2 k => by rw [r7 i k (Or.inl h1), r6 i k (Or.inl h1), r5 i k (Or.inl h1), r4 i k (Or.inl h1), r3 i k h2]
  have e11' : M7.2.1 175 11 = 6 := by rw [r7 _ _ (Or.inr (by decide)), r6 _ _ (Or.inr (by decide)), r5 _ _ (Or.inr (by decide)), r4 _ _ (Or.inr (by decide)), r3 _ _ (by decide)]; exact e11
  have e1 : M7.2.1 175 1 = M.2.1 175 1 := by rw [r7 _ _ (Or.inr (by decide)), r6 _ _ (Or.inr (by decide)), r5 _ _ (Or.inr (by decide)), r4 _ _ (Or.inr (by decide)), r3 _ _ (by decide)]
  have e14 : M7.2.1 175 14 = 0 := by rw [r7 _ _ (Or.inr (by decide)), r6 _ _ (Or.inr (by decide)), r5 _ _ (Or.inr (by decide)), w4]
  have e8 : M7.2.1 175 8 = 0 := by rw [r7 _ _ (Or.inr (by decide)), r6 _ _ (Or.inr (by decide)), w5]
  have e9 : M7.2.1 175 9 = 0 := by rw [r7 _ _ (Or.inr (by decide)), w6]
  have x7 : n_x M7 = 0 := by unfold n_x; rw [e8]; rfl
  have s7 : n_s M7 = n_s M := by unfold n_s; rw [e1]
  have R7 : he_R T M7 (n_sk T 0, σ) := by
    refine ⟨⟨H7, by rw [x7]; exact Nat.zero_le _⟩, ⟨(funext (fun q => e 176 (by decide) (by decide) q)).trans hb, s7.trans hs⟩, ⟨by rw [x7], e9⟩, ?_⟩
    rw [← h181]
    exact funext (fun q => e 181 (by decide) (by decide) q)
  have I1 : he_I σ 1 := ⟨by rw [h0 3 (by decide)]; decide, by rw [h0 0 (by decide), if_pos rfl]⟩
  refine e_o R7 ?_
  refine Ok_b (E_hclauseHere (cl := 1) R7 e11' (by rw [e14]; rfl) (by decide) (by decide) I1) (fun w z => ?_)
  obtain ⟨v9, M10⟩ := w
  obtain ⟨F10, P10, L10⟩ := z
  dsimp only at F10 P10 L10 ⊢
  have ht : hs_text T σ = hs_nx T 41 1 (hs_cl T 1 (n_sk T 0, σ)) := hs_tl_S
  rw [ht]
  have F010 : y_Fr he_V M M10 := y_tr F7 (y_fl (by decide) F10)
  have i11 : M10.2.1 175 11 = 6 := by rw [y_fk (i := 175) (k := 11) F10 (by decide)]; exact e11'
  have fin : ∀ {r : hs_R}, Ok (F_X12_readsAll_L35 g_fuel (some 175) v9 M10) (he_Z r M10) → Ok (F_X12_readsAll_L35 g_fuel (some 175) v9 M10) (he_ZZ r M) := fun h => Ok_w h (fun w z => ⟨⟨z.1.1, y_tr F010 (y_fl (by decide) z.1.2)⟩, z.2⟩)
  have gf : g_fuel = 1000000000 := rfl
  cases hit : hs_cl T 1 (n_sk T 0, σ) with
  | inl er =>
    rw [hit] at P10
    exact fin (E_hrd_L35 B g_fuel 41 1 P10.2.1 (y_rf0 _ _) (Or.inl ⟨P10.1, er, rfl, P10.2⟩) (by decide) (by omega) (by decide))
  | inr y' =>
    rw [hit] at P10
    obtain ⟨J, J40⟩ := hs_cl_I hit (by decide) I1
    exact fin (E_hrd_L35 B g_fuel 41 1 P10.2.1.1 (y_rf0 _ _) (Or.inr ⟨P10.1, y', rfl, P10.2, J, L10 P10.1, i11, J40⟩) (by decide) (by omega) (by decide))
theorem f_tS0' {k : Nat} : y_rg (y_tS k) 0 := by
  unfold y_tS
  split
  · exact ⟨by decide, by decide⟩
  · split
    · exact ⟨by decide, by decide⟩
    · split <;> exact ⟨by decide, by decide⟩
theorem E_houseC_L44 : ∀ (n k : Nat) {l1 : Int32} {M : gM}, y_HT M → l1.toInt = (k : Int) → k ≤ 157 → 157 - k < n → (∀ j, j < k → M.2.1 185 j = M.2.1 181 j) → Ok (F_X12_house_L44 n (some 175) l1 M) (fun r => (r.1 = M.2.1 181 2 ∧ ∀ j, j < 157 → r.2.2.1 185 j = M.2.1 181 j) ∧ r.2.2.1 175 25 = 0 ∧ r.2.2.1 175 1 = M.2.1 175 1) := by
  intro n
  induction n with
  | zero => intro k l1 M H h h1 h2 h3; omega
  | succ n ih =>
    intro k l1 M H h h1 h2 h3
    show Ok (F_X12_house_b44 (F_X12_house_L44 n) (some 175) l1 M) _
    have z : (157 : Int32).toInt = 157 := rfl
    delta F_X12_house_b44
    refine Ok_i (fun c => ?_) (fun c => ?_)
    · have c := i_le c
      rw [e_pI H, Option.bind_some]
      obtain ⟨H1, f1⟩ := y_set (M' := mI M 175 25 (0 : Int32)) (S := h_C) H (i := 175) (k := 25) (by decide) rfl rfl y_mI1 (fun j a hj => y_mI2 hj) rfl (y_in (lo := 0) (hi := 20) rfl (by decide)) (by decide)
      rw [e_gR H1 (w := 185) rfl (by decide), Option.bind_some, e_aI H1 (t := 20) (i := 185) (n := 157) rfl (by decide) (by decide) (by decide), Option.bind_some]
      refine Ok_s ⟨⟨?_, fun j hj => ?_⟩, y_mI1, mI_ne (Or.inr (by decide))⟩
      · show (mI M 175 25 0).2.1 185 2 = _
        rw [mI_ne (Or.inl (by decide))]
        exact h3 2 (by omega)
      · rw [mI_ne (Or.inl (by decide))]
        exact h3 j (by omega)
    · have c' := i_nle c
      have cl : l1.toNatClampNeg = k := i_cl h
      rw [e_gR H (w := 185) rfl (by decide), Option.bind_some, e_gR H (w := 181) rfl (by decide), Option.bind_some, e_aI H (t := 20) (i := 181) (n := 157) rfl (by decide) (by omega) (by omega), Option.bind_some, e_sI H (i := 185) (n := 157) rfl (by omega) (by omega), Option.bind_some, cl]
      obtain ⟨H1, f1⟩ := y_set (M' := mI M 185 k (M.2.1 181 k)) (S := h_C) H (i := 185) (k := k) (by decide) rfl rfl y_mI1 (fun j a hj => y_mI2 hj) rfl (H.2.1 181 (by decide) k) (show Nat.testBit h_C 50 = true by decide)
      refine Ok_w (ih (k + 1) H1 (by rw [n_inc h (by omega), i_ofNat (by omega)]) (by omega) (by omega) (fun j hj => ?_)) (fun r q => ?_)
      · rw [mI_ne (j := 181) (Or.inl (by decide))]
        by_cases e : j = k
        · subst e
          exact y_mI1
        · rw [mI_ne (Or.inr e)]
          exact h3 j (by omega)
      · obtain ⟨⟨q1, q2⟩, q3, q4⟩ := q
        refine ⟨⟨q1.trans (mI_ne (Or.inl (by decide))), fun j hj => (q2 j hj).trans (mI_ne (Or.inl (by decide)))⟩, q3, q4.trans (mI_ne (Or.inl (by decide)))⟩
def he_H (r : hs_R) (M0 : gM) : Int32 × gM → Prop := fun w => w.2.2.1 175 1 = 0 ∧ (match r with
  | .inl er => (∃ v : Int32, w.1 = (-2 : Int32) - v ∧ v.toInt = (er : Int)) ∧ (∀ j, w.2.2.1 185 j = M0.2.1 185 j) ∧ w.2.2.1 175 25 = M0.2.1 175 25
  | .inr y => (w.1 = y.2 2 ∧ ∀ j, j < 157 → w.2.2.1 185 j = y.2 j) ∧ w.2.2.1 175 25 = 0)
def hs_0 (f : Nat → Int32) : Nat → Int32 := fun k => if k < 10 then 0 else f k
theorem E_houseC_L8 {T M0 : gM} (B : z_B T) : ∀ (n k : Nat) {l1 : Int32} {M : gM}, y_HT M → M.2.1 175 11 = 6 → n_b M = n_b T → n_s M = n_s T → l1.toInt = (k : Int) → k ≤ 10 → 10 - k < n → (∀ j, M.2.1 181 j = if j < k then 0 else M0.2.1 181 j) → ((∀ j, M.2.1 185 j = M0.2.1 185 j) ∧ M.2.1 175 25 = M0.2.1 175 25) → Ok (F_X12_house_L8 n (some 175) l1 M) (he_H (hs_text T (hs_0 (M0.2.1 181))) M0) := by
  intro n
  induction n with
  | zero => intro k l1 M H t hb hs h h1 h2 h3 h4; omega
  | succ n ih =>
    intro k l1 M H t hb hs h h1 h2 h3 h4
    show Ok (F_X12_house_b8 (F_X12_house_L8 n) (some 175) l1 M) _
    have z : (10 : Int32).toInt = 10 := rfl
    delta F_X12_house_b8
    refine Ok_i (fun c => ?_) (fun c => ?_)
    · have c := i_le c
      have k10 : k = 10 := by omega
      subst k10
      rw [e_gO H, Option.bind_some]
      refine Ok_b (E_hreadsAll (σ := hs_0 (M0.2.1 181)) B H t hb hs (funext h3) (fun k hk => if_pos hk)) (fun w q => ?_)
      obtain ⟨v2, M3⟩ := w
      obtain ⟨⟨H3, F3⟩, q1, q2⟩ := q
      dsimp only at H3 F3 q1 q2 ⊢
      have a185 : ∀ j, M3.2.1 185 j = M0.2.1 185 j := fun j => (y_fa (i := 185) F3 (by decide) (by decide) j).trans (h4.1 j)
      have a25 : M3.2.1 175 25 = M0.2.1 175 25 := (y_fk (i := 175) (k := 25) F3 (by decide)).trans h4.2
      generalize hs_text T (hs_0 (M0.2.1 181)) = r at q2 ⊢
      cases r with
      | inl er =>
        rw [if_pos q2.1, e_gI H3, Option.bind_some]
        exact Ok_s ⟨q1, ⟨_, rfl, q2.2⟩, a185, a25⟩
      | inr y =>
        rw [if_neg (by rw [q2.1]; decide)]
        refine Ok_w (E_houseC_L44 g_fuel 0 (l1 := 0) H3 rfl (by decide) (by decide) (fun j hj => absurd hj (Nat.not_lt_zero _))) (fun r q => ?_)
        obtain ⟨⟨u1, u2⟩, u3, u4⟩ := q
        rw [q2.2] at u1 u2
        exact ⟨u4.trans q1, ⟨u1, u2⟩, u3⟩
    · have c' := i_nle c
      have cl : l1.toNatClampNeg = k := i_cl h
      rw [e_gR H (w := 181) rfl (by decide), Option.bind_some, e_sI H (i := 181) (n := 157) rfl (by omega) (by omega), Option.bind_some, cl]
      obtain ⟨H1, f1⟩ := y_set (M' := mI M 181 k (0 : Int32)) (S := h_C) H (i := 181) (k := k) (v := 0) (by decide) rfl rfl y_mI1 (fun j a hj => y_mI2 hj) rfl f_tS0' (show Nat.testBit h_C 46 = true by decide)
      have o : ∀ i a, i ≠ 181 → (mI M 181 k (0 : Int32)).2.1 i a = M.2.1 i a := fun i a hi => mI_ne (Or.inl hi)
      refine ih (k + 1) H1 ((o _ _ (by decide)).trans t) ((funext (fun q => o 176 q (by decide))).trans hb) (by rw [← hs]; unfold n_s; rw [o 175 1 (by decide)]) (by rw [n_inc h (by omega), i_ofNat (by omega)]) (by omega) (by omega) (fun j => ?_) ⟨fun j => (o _ _ (by decide)).trans (h4.1 j), (o _ _ (by decide)).trans h4.2⟩
      by_cases e : j = k
      · subst e
        rw [y_mI1, if_pos (by omega)]
      · rw [mI_ne (Or.inr e), h3 j]
        by_cases e2 : j < k
        · rw [if_pos e2, if_pos (by omega)]
        · rw [if_neg e2, if_neg (by omega)]
/-- house() of the reference -/
theorem E_houseX {T M : gM} (B : z_B T) (H : y_HT M) (hb : n_b M = n_b T) (hs : n_s M = n_s T) : Ok (F_X12_house (some 175) M) (he_H (hs_text T (hs_0 (M.2.1 181))) M) := by
  delta F_X12_house F_X12_house_b0
  rw [e_pI H, Option.bind_some]
  obtain ⟨H1, f1⟩ := y_set (M' := mI M 175 11 (6 : Int32)) (S := h_C) H (i := 175) (k := 11) (by decide) rfl rfl y_mI1 (fun j a hj => y_mI2 hj) rfl (y_in (lo := 0) (hi := 6) rfl (by decide)) (by decide)
  have o : ∀ i a, i ≠ 175 ∨ a ≠ 11 → (mI M 175 11 (6 : Int32)).2.1 i a = M.2.1 i a := fun i a hi => mI_ne hi
  exact E_houseC_L8 B g_fuel 0 (l1 := 0) H1 y_mI1 ((funext (fun q => o 176 q (Or.inl (by decide)))).trans hb) (by rw [← hs]; unfold n_s; rw [o 175 1 (Or.inr (by decide))]) rfl (by decide) (by decide) (fun j => by rw [if_neg (Nat.not_lt_zero _)]; exact o _ _ (Or.inl (by decide))) ⟨fun j => o _ _ (Or.inl (by decide)), o _ _ (Or.inr (by decide))⟩
