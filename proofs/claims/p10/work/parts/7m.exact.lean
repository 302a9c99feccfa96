/-! the reference's image and back, and force of both: what they leave, exactly -/
theorem E_image_L43 {l1 : Int32} {n : Nat} (hl : l1.toInt = (n : Int)) (hn : n ≤ 3) : ∀ (fuel j : Nat) {l2 : Int32} {M : gM}, y_HT M → l2.toInt = (j : Int) → j ≤ 157 → 157 - j < fuel → Ok (F_X12_image_L43 fuel (some 175) l1 l2 M) (fun r => (y_HT r.2 ∧ y_Fr 288230376151711744 M r.2) ∧ r.1 = M.2.1 185 4 ∧ ∀ k, r.2.2.1 193 k = if 157 * n + j ≤ k ∧ k < 157 * n + 157 then M.2.1 185 (k - 157 * n) else M.2.1 193 k) := by
  intro fuel
  induction fuel with
  | zero => intro j l2 M H h2 hj hf; omega
  | succ fuel ih =>
    intro j l2 M H h2 hj hf
    show Ok (F_X12_image_b43 (F_X12_image_L43 fuel) (some 175) l1 l2 M) _
    delta F_X12_image_b43
    refine Ok_i (fun c => ?_) (fun c => ?_)
    · have c := i_le c
      rw [L2_157] at c
      refine y_gR (w := 185) H rfl (by decide) ?_
      refine y_aI H (i := 185) (n := 157) rfl (by decide) (by decide) (by decide) (fun v2 q2 => ?_)
      refine Ok_s ⟨⟨H, y_rf0 _ _⟩, q2.symm, fun k => ?_⟩
      rw [if_neg (by omega)]
    · replace c := i_nle c
      rw [L2_157] at c
      have a := i_addc (x := l2) (c := (1 : Int32)) (n := 1) rfl (by omega) (by omega)
      have a1 := i_mulL (c := (157 : Int32)) (x := l1) (n := 157) rfl (by omega) (by omega)
      have a2 := i_add (x := (157 : Int32) * l1) (y := l2) (by omega) (by omega)
      have e1 : ((157 : Int32) * l1 + l2).toNatClampNeg = 157 * n + j := i_cl (by omega)
      have e2 : l2.toNatClampNeg = j := i_cl h2
      refine y_gR (w := 193) H rfl (by decide) ?_
      refine y_gR (w := 185) H rfl (by decide) ?_
      refine y_aI H (i := 185) (n := 157) rfl (by decide) (by omega) (by omega) (fun v5 q5 => ?_)
      refine y_sI (S := 288230376151711744) H (i := 193) (n := 628) rfl (by omega) (by omega) (y_mv H (by decide) q5 (y_md (u := l1.toInt) (by omega) (by omega) (by omega))) (by decide) (fun M6 H6 f6 q6 o6 l6 => ?_)
      rw [e1] at q6 o6
      rw [e2] at q5
      refine Ok_w (ih (j + 1) H6 (by omega) (by omega) (by omega)) (fun r z => ?_)
      obtain ⟨⟨Hr, fr⟩, r1, rk⟩ := z
      refine ⟨⟨Hr, y_tr f6 fr⟩, by rw [r1, o6 _ _ (Or.inl (by decide))], fun k => ?_⟩
      rw [rk k]
      by_cases ck : k = 157 * n + j
      · subst ck
        rw [if_neg (by omega), if_pos (by omega), q6, ← q5, show 157 * n + j - 157 * n = j by omega]
      · by_cases c2 : 157 * n + (j + 1) ≤ k ∧ k < 157 * n + 157
        · rw [if_pos c2, if_pos (by omega), o6 _ _ (Or.inl (by decide))]
        · rw [if_neg c2, if_neg (by omega), o6 _ _ (Or.inr ck)]
theorem E_image {l1 : Int32} {M : gM} (H : y_HT M) : Ok (F_X12_image (some 175) l1 M) (fun r => (¬ (0 ≤ l1.toInt ∧ l1.toInt ≤ 3) → r = (-1, M)) ∧ ∀ n : Nat, l1.toInt = (n : Int) → n ≤ 3 → (r.1 = M.2.1 185 4 ∧ ∀ k, r.2.2.1 193 k = if 157 * n ≤ k ∧ k < 157 * n + 157 then M.2.1 185 (k - 157 * n) else M.2.1 193 k) ∧ r.2.2.1 194 n = M.2.1 175 21 ∧ ∀ a, a ≠ n → r.2.2.1 194 a = M.2.1 194 a) := by
  delta F_X12_image F_X12_image_b0
  refine Ok_b (S_X12_in' (lo := 0) (hi := 3) rfl rfl) (fun v1 e1 => ?_)
  refine Ok_i (fun c => ?_) (fun c => ?_)
  · have hn : ¬ (0 ≤ l1.toInt ∧ l1.toInt ≤ 3) := e1.2.2 (by rw [c]; rfl)
    exact Ok_s ⟨fun _ => rfl, fun n h1 h2 => by omega⟩
  · have h := e1.2.1 (i_ne c)
    obtain ⟨m, hm⟩ : ∃ m : Nat, l1.toInt = (m : Int) := ⟨l1.toInt.toNat, by omega⟩
    have e2 : l1.toNatClampNeg = m := i_cl hm
    refine y_gR (w := 196) H rfl (by decide) ?_
    refine y_sZ (S := 4323455642275676160) H (by omega) (by omega) (Or.inr rfl) (by decide) (fun M3 H3 f3 q3 o3 => ?_)
    refine y_gR (w := 194) H3 rfl (by decide) ?_
    refine y_gI (lo := -1) (hi := 5) H3 rfl (fun v5 q5 e5 => ?_)
    refine y_sI (S := 4323455642275676160) H3 (i := 194) (n := 4) rfl (by omega) (by omega) (y_in (lo := -1) (hi := 5) rfl e5) (by decide) (fun M6 H6 f6 q6 o6 l6 => ?_)
    refine y_gR (w := 195) H6 rfl (by decide) ?_
    refine y_gI (lo := 0) (hi := 2147483647) H6 rfl (fun v8 q8 e8 => ?_)
    refine y_sI (S := 4323455642275676160) H6 (i := 195) (n := 4) rfl (by omega) (by omega) (y_in (lo := 0) (hi := 2147483647) rfl e8) (by decide) (fun M9 H9 f9 q9 o9 l9 => ?_)
    rw [e2] at q6 o6
    refine Ok_w (E_image_L43 hm (by omega) g_fuel 0 H9 rfl (by decide) (by decide)) (fun r z => ?_)
    obtain ⟨⟨H10, f10⟩, z1, z2⟩ := z
    have b194 := y_fa (i := 194) f10 (by decide) (by decide)
    have e21 : M.2.1 175 21 = v5 := by rw [← q5, o3 _ _ (Or.inl (by decide))]
    refine ⟨fun hn => absurd h hn, fun n hl _ => ?_⟩
    have : n = m := by omega
    subst this
    refine ⟨⟨?_, fun k => ?_⟩, ?_, fun a ha => ?_⟩
    · rw [z1, o9 _ _ (Or.inl (by decide)), o6 _ _ (Or.inl (by decide)), o3 _ _ (Or.inl (by decide))]
    · rw [z2 k, o9 193 _ (Or.inl (by decide)), o6 193 _ (Or.inl (by decide)), o3 193 _ (Or.inl (by decide)), o9 185 _ (Or.inl (by decide)), o6 185 _ (Or.inl (by decide)), o3 185 _ (Or.inl (by decide))]
      rfl
    · rw [b194, o9 _ _ (Or.inl (by decide)), q6, e21]
    · rw [b194, o9 _ _ (Or.inl (by decide)), o6 _ _ (Or.inr ha), o3 _ _ (Or.inl (by decide))]
theorem E_back_L50 {l1 : Int32} {n : Nat} (hl : l1.toInt = (n : Int)) (hn : n ≤ 3) : ∀ (fuel j : Nat) {l2 : Int32} {M : gM}, y_HT M → l2.toInt = (j : Int) → j ≤ 157 → 157 - j < fuel → Ok (F_X12_back_L50 fuel (some 175) l1 l2 M) (fun r => (y_HT r.2 ∧ y_Fr 1125899906842624 M r.2) ∧ (r.1 = r.2.2.1 185 4) ∧ ∀ k, r.2.2.1 185 k = if j ≤ k ∧ k < 157 then M.2.1 193 (157 * n + k) else M.2.1 185 k) := by
  intro fuel
  induction fuel with
  | zero => intro j l2 M H h2 hj hf; omega
  | succ fuel ih =>
    intro j l2 M H h2 hj hf
    show Ok (F_X12_back_b50 (F_X12_back_L50 fuel) (some 175) l1 l2 M) _
    delta F_X12_back_b50
    refine Ok_i (fun c => ?_) (fun c => ?_)
    · have c := i_le c
      rw [L2_157] at c
      refine y_gR (w := 185) H rfl (by decide) ?_
      refine y_aI H (i := 185) (n := 157) rfl (by decide) (by decide) (by decide) (fun v2 q2 => ?_)
      refine Ok_s ⟨⟨H, y_rf0 _ _⟩, q2.symm, fun k => ?_⟩
      rw [if_neg (by omega)]
    · replace c := i_nle c
      rw [L2_157] at c
      have a := i_addc (x := l2) (c := (1 : Int32)) (n := 1) rfl (by omega) (by omega)
      have a1 := i_mulL (c := (157 : Int32)) (x := l1) (n := 157) rfl (by omega) (by omega)
      have a2 := i_add (x := (157 : Int32) * l1) (y := l2) (by omega) (by omega)
      have e1 : ((157 : Int32) * l1 + l2).toNatClampNeg = 157 * n + j := i_cl (by omega)
      have e2 : l2.toNatClampNeg = j := i_cl h2
      refine y_gR (w := 185) H rfl (by decide) ?_
      refine y_gR (w := 193) H rfl (by decide) ?_
      refine y_aI H (i := 193) (n := 628) rfl (by decide) (by omega) (by omega) (fun v5 q5 => ?_)
      refine y_sI (S := 1125899906842624) H (i := 185) (n := 157) rfl (by omega) (by omega) (y_mv H (by decide) q5 (y_md (u := l1.toInt) (by omega) (by omega) (by omega)).symm) (by decide) (fun M6 H6 f6 q6 o6 l6 => ?_)
      rw [e2] at q6 o6
      rw [e1] at q5
      refine Ok_w (ih (j + 1) H6 (by omega) (by omega) (by omega)) (fun r z => ?_)
      obtain ⟨⟨Hr, fr⟩, r1, rk⟩ := z
      refine ⟨⟨Hr, y_tr f6 fr⟩, r1, fun k => ?_⟩
      rw [rk k]
      by_cases ck : k = j
      · subst ck
        rw [if_neg (by omega), if_pos (by omega), q6, ← q5]
      · by_cases c2 : j + 1 ≤ k ∧ k < 157
        · rw [if_pos c2, if_pos (by omega), o6 _ _ (Or.inl (by decide))]
        · rw [if_neg c2, if_neg (by omega), o6 _ _ (Or.inr ck)]
theorem E_back {l1 : Int32} {M : gM} (H : y_HT M) (W : y_W M) : Ok (F_X12_back (some 175) l1 M) (fun r => (¬ ((0 ≤ l1.toInt ∧ l1.toInt ≤ 3) ∧ M.2.1 196 l1.toNatClampNeg ≠ 0) → r = (-1, M)) ∧ ∀ n : Nat, l1.toInt = (n : Int) → n ≤ 3 → M.2.1 196 n ≠ 0 → (r.1 = M.2.1 193 (157 * n + 4) ∧ ∀ k, r.2.2.1 185 k = if k < 157 then M.2.1 193 (157 * n + k) else M.2.1 185 k) ∧ r.2.2.1 175 21 = M.2.1 194 n ∧ r.2.2.1 175 25 = 0) := by
  delta F_X12_back F_X12_back_b0 F_X12_back_b21
  refine Ok_b (S_X12_in' (lo := 0) (hi := 3) rfl rfl) (fun v1 e1 => ?_)
  refine Ok_i (fun c => ?_) (fun c => ?_)
  · have hn : ¬ (0 ≤ l1.toInt ∧ l1.toInt ≤ 3) := e1.2.2 (by rw [c]; rfl)
    exact Ok_s ⟨fun _ => rfl, fun n h1 h2 => by omega⟩
  · have h := e1.2.1 (i_ne c)
    obtain ⟨m, hm⟩ : ∃ m : Nat, l1.toInt = (m : Int) := ⟨l1.toInt.toNat, by omega⟩
    have e2 : l1.toNatClampNeg = m := i_cl hm
    refine y_gR (w := 196) H rfl (by decide) ?_
    refine y_aI H (i := 196) (n := 4) rfl (by decide) (by omega) (by omega) (fun v3 q3 => ?_)
    refine Ok_i (fun c3 => ?_) (fun c3 => ?_)
    · refine Ok_s ⟨fun _ => rfl, fun n hl _ hne => ?_⟩
      have : n = m := by omega
      subst this
      rw [e2] at q3
      exact absurd (q3.trans c3) hne
    · have hmm : M.2.1 196 l1.toNatClampNeg ≠ 0 := by rw [q3]; exact c3
      refine y_gR (w := 194) H rfl (by decide) ?_
      refine y_aIr (lo := -1) (hi := 5) H (i := 194) (n := 4) rfl (by decide) (by omega) (by omega) rfl (fun v5 q5 e5 => ?_)
      refine y_pI (S := 1125899946688512) (lo := -1) (hi := 5) H rfl e5 (by decide) (fun M6 H6 f6 q6 o6 l6 => ?_)
      refine y_gR (w := 195) H6 rfl (by decide) ?_
      refine y_aIr (lo := 0) (hi := 2147483647) H6 (i := 195) (n := 4) rfl (by decide) (by omega) (by omega) rfl (fun v8 q8 e8 => ?_)
      refine y_pI (S := 1125899911036928) (lo := 0) (hi := 2147483647) H6 rfl e8 (by decide) (fun M9 H9 f9 q9 o9 l9 => ?_)
      refine y_pI (S := 1125899940397056) (lo := 0) (hi := 20) H9 rfl (by decide) (by decide) (fun M10 H10 f10 q10 o10 l10 => ?_)
      refine Ok_w (E_back_L50 hm (by omega) g_fuel 0 H10 rfl (by decide) (by decide)) (fun r z => ?_)
      obtain ⟨⟨H11, f11⟩, z1, z2⟩ := z
      rw [e2] at q5
      refine ⟨fun hn => absurd ⟨h, hmm⟩ hn, fun n hl _ _ => ?_⟩
      have : n = m := by omega
      subst this
      have o193 : ∀ k, M10.2.1 193 k = M.2.1 193 k := fun k => by rw [o10 193 _ (Or.inl (by decide)), o9 193 _ (Or.inl (by decide)), o6 193 _ (Or.inl (by decide))]
      have o185 : ∀ k, M10.2.1 185 k = M.2.1 185 k := fun k => by rw [o10 185 _ (Or.inl (by decide)), o9 185 _ (Or.inl (by decide)), o6 185 _ (Or.inl (by decide))]
      have zz : ∀ k, r.2.2.1 185 k = if k < 157 then M.2.1 193 (157 * n + k) else M.2.1 185 k := by
        intro k
        rw [z2 k, o193, o185]
        by_cases ck : k < 157
        · rw [if_pos ck, if_pos ⟨Nat.zero_le _, ck⟩]
        · rw [if_neg ck, if_neg (fun w => ck w.2)]
      refine ⟨⟨by rw [z1, zz 4, if_pos (by decide)], zz⟩, ?_, ?_⟩
      · rw [y_fk (i := 175) (k := 21) f11 (by decide), o10 _ _ (Or.inr (by decide)), o9 _ _ (Or.inr (by decide)), q6, ← q5]
      · rw [y_fk (i := 175) (k := 25) f11 (by decide), q10]
theorem C_force {l : Int32} {M : gM} (K : g_k M 2 = (11, 0)) : F_X11_force (some 2) l M = some (if l < -1 then (-2, M) else if l < M.2.1 2 12 then (M.2.1 2 13, mI M 2 13 l) else (-2, M)) := by
  delta F_X11_force F_X11_force_b0 F_X11_force_b13
  by_cases h : l < -1
  · rw [if_pos h, if_pos h]
  rw [if_neg h, if_neg h, t_gI K, Option.bind_some]
  by_cases c : l < M.2.1 2 12
  · rw [if_pos c, if_pos c, t_gI K, Option.bind_some, t_pI K, Option.bind_some]
  · rw [if_neg c, if_neg c]
theorem E_force {l : Int32} {M : gM} (H : y_HT M) : F_X12_force (some 175) l M = some (if l = -1 then (M.2.1 175 21, mI M 175 21 l) else if l < 0 then (-2, M) else if M.2.1 175 2 ≤ l then (-2, M) else (M.2.1 175 21, mI M 175 21 l)) := by
  delta F_X12_force F_X12_force_b0 F_X12_force_b16 F_X12_isRule F_X12_isRule_b0 F_X12_isRule_b16
  by_cases h : l = -1
  · rw [if_pos h, if_pos h, e_gI H, Option.bind_some, e_pI H, Option.bind_some]
  rw [if_neg h, if_neg h, e_gO H, Option.bind_some]
  by_cases c : l < 0
  · rw [if_pos c, if_pos c, Option.bind_some, if_pos rfl]
  rw [if_neg c, if_neg c, e_gI H, Option.bind_some]
  by_cases c2 : M.2.1 175 2 ≤ l
  · rw [if_pos c2, if_pos c2, Option.bind_some, if_pos rfl]
  · rw [if_neg c2, if_neg c2, Option.bind_some, if_neg (by decide), e_gI H, Option.bind_some, e_pI H, Option.bind_some]
