/-! losses without a RULE, and the class's weighing -/
def s_pl (σ : Nat → Int32) (h t : Nat) : Int32 :=
  let a := if hs_is (σ 8) (Int32.ofNat t) = 1 then σ (11 + 4 * t) * (2 : Int32) else σ (11 + 4 * t)
  let b := if hs_is (σ 7) (Int32.ofNat t) = 1 then a / 2 else a
  let c := b + σ (38 + 2 * h) / 20
  if hs_is (σ 6) (Int32.ofNat h) = 1 then c / 2 else c
theorem s_pl_a {σ : Nat → Int32} {h t : Nat} (V : s_V σ) (hh : h < hs_m σ) (ht : t < hs_n σ) {a : Int32} (ha : 0 ≤ a.toInt ∧ a.toInt ≤ 40) : 0 ≤ (a + σ (38 + 2 * h) / 20).toInt ∧ (a + σ (38 + 2 * h) / 20).toInt ≤ 44 := by
  have nn := s_Vn V
  have ag := (V.2.2.2 h (by omega)).1
  have d := i_div (x := σ (38 + 2 * h)) (c := (20 : Int32)) (n := 20) rfl (by decide) (by omega)
  have e := i_add (x := a) (y := σ (38 + 2 * h) / 20) (by omega) (by omega)
  omega
theorem s_pl_b {σ : Nat → Int32} {t : Nat} (V : s_V σ) (ht : t < hs_n σ) : (0 ≤ (if hs_is (σ 8) (Int32.ofNat t) = 1 then σ (11 + 4 * t) * (2 : Int32) else σ (11 + 4 * t)).toInt ∧ (if hs_is (σ 8) (Int32.ofNat t) = 1 then σ (11 + 4 * t) * (2 : Int32) else σ (11 + 4 * t)).toInt ≤ 40) ∧ σ (11 + 4 * t) * (2 : Int32) = (2 : Int32) * σ (11 + 4 * t) := by
  have nn := s_Vn V
  have fd := (V.2.2.1 t (by omega)).1.2
  have e := i_mulR (x := σ (11 + 4 * t)) (c := (2 : Int32)) (n := 2) rfl (by omega) (by omega)
  refine ⟨?_, Int32.mul_comm _ _⟩
  by_cases c : hs_is (σ 8) (Int32.ofNat t) = 1
  · rw [if_pos c]
    omega
  · rw [if_neg c]
    omega
theorem s_half {a : Int32} {c : Prop} [Decidable c] (ha : 0 ≤ a.toInt ∧ a.toInt ≤ 44) : 0 ≤ (if c then a / 2 else a).toInt ∧ (if c then a / 2 else a).toInt ≤ a.toInt := by
  have d := i_div (x := a) (c := (2 : Int32)) (n := 2) rfl (by decide) (by omega)
  by_cases h : c
  · rw [if_pos h]
    omega
  · rw [if_neg h]
    omega
theorem s_pl_r {σ : Nat → Int32} {h t : Nat} (V : s_V σ) (hh : h < hs_m σ) (ht : t < hs_n σ) : 0 ≤ (s_pl σ h t).toInt ∧ (s_pl σ h t).toInt ≤ 44 := by
  have b := (s_pl_b V ht).1
  unfold s_pl
  dsimp only
  generalize (if hs_is (σ 8) (Int32.ofNat t) = 1 then σ (11 + 4 * t) * (2 : Int32) else σ (11 + 4 * t)) = a at b ⊢
  have c := s_half (a := a) (c := hs_is (σ 7) (Int32.ofNat t) = 1) ⟨b.1, by omega⟩
  generalize (if hs_is (σ 7) (Int32.ofNat t) = 1 then a / 2 else a) = a2 at c ⊢
  have d := s_pl_a V hh ht (a := a2) ⟨c.1, by omega⟩
  generalize a2 + σ (38 + 2 * h) / 20 = a3 at d ⊢
  have e := s_half (a := a3) (c := hs_is (σ 6) (Int32.ofNat h) = 1) d
  omega
theorem C_plainLoss {M : gM} {s e h t : Nat} {σ : Nat → Int32} {l1 l2 : Int32} (X : k_X M s e σ) (h1 : l1.toInt = (h : Int)) (h2 : l2.toInt = (t : Int)) (hh : h < hs_m σ) (ht : t < hs_n σ) : F_X1_plainLoss (some e) l1 l2 (σ (38 + 2 * h)) (σ 8) M = some (s_pl σ h t) := by
  obtain ⟨⟨ke, ⟨e6, e7⟩, e9, e10⟩, _⟩ := k_XE X
  have nn := s_Vn X.2.2
  have R1 : g_k M (e + 2) = (20, 7) ∧ M.2.2.2 e 1 = some (e + 2) := k_XR (i := 1) X (by decide)
  have fd : M.2.1 (e + 2) t = σ (11 + 4 * t) := (X.2.1.1.2.2.1 t (by omega)).1.2
  have n1 := i_nt h1 (by omega)
  have n2 := i_nt h2 (by omega)
  delta F_X1_plainLoss F_X1_plainLoss_b0 F_X1_plainLoss_b27 F_X1_plainLoss_b47
  unfold s_pl
  dsimp only
  have ai : aI 20 M (some (e + 2)) l2 = some (σ (11 + 4 * t)) := by rw [t_aI R1.1 (by omega) (by omega), i_cl h2, fd]
  have g9 : gI 1 M (some e) 9 = some (σ 7) := by rw [t_gI ke, e9]
  have g10 : gI 1 M (some e) 10 = some (σ 6) := by rw [t_gI ke, e10]
  simp only [C_bit, Option.bind_some, t_gR ke R1.2, ai, g9, g10, ← n1, ← n2]
  by_cases c1 : hs_is (σ 8) l2 = 1
  · simp only [if_pos c1, Option.bind_some, t_gR ke R1.2, ai, g9, g10]
    by_cases c2 : hs_is (σ 7) l2 = 1
    · simp only [if_pos c2, Option.bind_some]
      by_cases c3 : hs_is (σ 6) l1 = 1
      · simp only [if_pos c3]
      · simp only [if_neg c3]
    · simp only [if_neg c2, Option.bind_some]
      by_cases c3 : hs_is (σ 6) l1 = 1
      · simp only [if_pos c3]
      · simp only [if_neg c3]
  · simp only [if_neg c1, Option.bind_some, t_gR ke R1.2, ai, g9, g10]
    by_cases c2 : hs_is (σ 7) l2 = 1
    · simp only [if_pos c2, Option.bind_some]
      by_cases c3 : hs_is (σ 6) l1 = 1
      · simp only [if_pos c3]
      · simp only [if_neg c3]
    · simp only [if_neg c2, Option.bind_some]
      by_cases c3 : hs_is (σ 6) l1 = 1
      · simp only [if_pos c3]
      · simp only [if_neg c3]
theorem E_fades {M : gM} {h t : Nat} {σ : Nat → Int32} {l1 l2 : Int32} (X : e_V M σ) (h1 : l1.toInt = (h : Int)) (h2 : l2.toInt = (t : Int)) (hh : h < hs_m σ) (ht : t < hs_n σ) : F_X12_fades (some 175) l1 l2 (σ (38 + 2 * h)) M = some (s_pl σ h t) := by
  have nn := s_Vn X.2.2
  have b := s_pl_b X.2.2 ht
  have n1 := i_nt h1 (by omega)
  have n2 := i_nt h2 (by omega)
  have z99 : (99 : Int32).toInt = 99 := rfl
  delta F_X12_fades F_X12_fades_b0
  rw [e_gO X.1, Option.bind_some, E_thingOf X h2 (w := 1) rfl (by omega) (by decide), Option.bind_some, show 10 + 4 * t + 1 = 11 + 4 * t by omega, e_sd X (k := 8) rfl (by decide), R_isOf, Option.bind_some]
  unfold s_pl
  dsimp only
  rw [← n1, ← n2, b.2]
  rw [← n2, b.2] at b
  have b71 : ∀ a : Int32, F_X12_fades_b71 M (some 175) l1 a = some (if hs_is (σ 6) l1 = 1 then a / 2 else a) := by
    intro a
    delta F_X12_fades_b71
    rw [e_sd X (k := 6) rfl (by decide), R_isOf, Option.bind_some]
    by_cases c : hs_is (σ 6) l1 = 1
    · rw [if_pos c, if_pos c, if_neg (by decide)]
    · rw [if_neg c, if_neg c, if_pos rfl]
  have b48 : ∀ a : Int32, 0 ≤ a.toInt ∧ a.toInt ≤ 40 → F_X12_fades_b48 M (some 175) l1 (σ (38 + 2 * h)) a = some (if hs_is (σ 6) l1 = 1 then (a + σ (38 + 2 * h) / 20) / 2 else a + σ (38 + 2 * h) / 20) := by
    intro a ha
    have r := s_pl_a X.2.2 hh ht ha
    delta F_X12_fades_b48
    rw [if_pos (Int32.le_iff_toInt_le.mpr (by omega)), b71]
  have b28 : ∀ a : Int32, 0 ≤ a.toInt ∧ a.toInt ≤ 40 → F_X12_fades_b28 M (some 175) l1 l2 (σ (38 + 2 * h)) a = some (if hs_is (σ 6) l1 = 1 then ((if hs_is (σ 7) l2 = 1 then a / 2 else a) + σ (38 + 2 * h) / 20) / 2 else (if hs_is (σ 7) l2 = 1 then a / 2 else a) + σ (38 + 2 * h) / 20) := by
    intro a ha
    have r := s_half (a := a) (c := hs_is (σ 7) l2 = 1) ⟨ha.1, by omega⟩
    delta F_X12_fades_b28
    rw [e_sd X (k := 7) rfl (by decide), R_isOf, Option.bind_some]
    by_cases c : hs_is (σ 7) l2 = 1
    · rw [if_pos c] at r
      rw [if_pos c, if_pos c, if_neg (by decide)]
      exact b48 _ ⟨r.1, by omega⟩
    · rw [if_neg c, if_neg c, if_pos rfl]
      exact b48 _ ha
  by_cases c : hs_is (σ 8) l2 = 1
  · rw [if_pos c] at b
    rw [if_pos c, if_pos c, if_neg (by decide)]
    exact b28 _ b.1
  · rw [if_neg c] at b
    rw [if_neg c, if_neg c, if_pos rfl]
    exact b28 _ b.1
/-- only the years' own cells moved -/
def k_F58 (M M' : gM) : Prop := (M'.1 = M.1 ∧ M'.2.2.2 = M.2.2.2) ∧ ∀ i, i < 5 ∨ 8 < i → M'.2.1 i = M.2.1 i ∧ M'.2.2.1 i = M.2.2.1 i
theorem k_58r {M : gM} : k_F58 M M := ⟨⟨rfl, rfl⟩, fun _ _ => ⟨rfl, rfl⟩⟩
theorem k_58t {M M1 M2 : gM} (h1 : k_F58 M M1) (h2 : k_F58 M1 M2) : k_F58 M M2 := ⟨⟨h2.1.1.trans h1.1.1, h2.1.2.trans h1.1.2⟩, fun i h => ⟨(h2.2 i h).1.trans (h1.2 i h).1, (h2.2 i h).2.trans (h1.2 i h).2⟩⟩
theorem k_58I {M : gM} {i k : Nat} {v : Int32} (h : 5 ≤ i ∧ i ≤ 8) : k_F58 M (mI M i k v) := ⟨⟨rfl, rfl⟩, fun j hj => ⟨g_up_ne _ _ _ (by omega), rfl⟩⟩
theorem k_58L {M : gM} {i k : Nat} {v : Int64} (h : 5 ≤ i ∧ i ≤ 8) : k_F58 M (mL M i k v) := ⟨⟨rfl, rfl⟩, fun j hj => ⟨rfl, g_up_ne _ _ _ (by omega)⟩⟩
theorem k_X58 {M M' : gM} {s e : Nat} {σ : Nat → Int32} (X : k_X M s e σ) (f : k_F58 M M') (hs8 : 8 < s) (he : 8 < e) : k_X M' s e σ :=
  ⟨⟨k_LEm X.1.1 (fun i => q_k_of f.1.1) f.1.2, k_LSm X.1.2 (fun i => q_k_of f.1.1) f.1.2⟩, ⟨k_Em X.2.1.1 (fun i k h1 h2 _ => by rw [(f.2 i (by omega)).1]), k_Sm X.2.1.2 (fun i k h1 h2 => by rw [(f.2 i (by omega)).1])⟩, X.2.2⟩
/-- how the class finds a loss -/
def C_LO (J : gM → Prop) (s e : Nat) (σ : Nat → Int32) (L : Nat → Nat → Int32) (rl : Option Nat) : Prop := ∀ (M : gM) (h t : Nat) (l4 l5 : Int32) (f : Option Nat → gM → Option gM) (P : gM → Prop), k_X M s e σ → k_Y M → J M → l4.toInt = (h : Int) → l5.toInt = (t : Int) → h < hs_m σ → t < hs_n σ → s_kn σ h t = true →
  (∀ M', k_F58 M M' → J M' → M'.2.1 5 (7 * h + t) = L h t → (∀ a, a ≠ 7 * h + t → M'.2.1 5 a = M.2.1 5 a) → Ok (f (some e) M') P) →
  Ok (if rl = none then ((gR 10 M (some 4) 0).bind fun v13 => (gR 8 M (some s) 2).bind fun v14 => (aI 20 M v14 l4).bind fun v15 => (gI 8 M (some s) 4).bind fun v16 => (gO 1 M (some e)).bind fun i17 => (F_X1_plainLoss (some i17) l4 l5 v15 v16 M).bind fun v18 => (sI M v13 ((l4 * (7 : Int32)) + l5) v18).bind fun M19 => f (some i17) M19) else ((gR 10 M (some 4) 1).bind fun v4 => (gO 5 M v4).bind fun i5 => (F_X5_look (some i5) (some e) (some s) l4 l5 M).bind fun M6 => (gR 10 M6 (some 4) 0).bind fun v7 => (gR 10 M6 (some 4) 1).bind fun v8 => (gO 5 M6 v8).bind fun i9 => (F_X5_loss (some i9) rl M6).bind fun (v10, M11) => (sI M11 v7 ((l4 * (7 : Int32)) + l5) ((if (if v10 < (99 : Int64) then v10 else (99 : Int64)) < (0 : Int64) then (0 : Int64) else (if v10 < (99 : Int64) then v10 else (99 : Int64)))).toInt32).bind fun M12 => f (some e) M12)) P
theorem C_LO_none {s e : Nat} {σ : Nat → Int32} {J : gM → Prop} (hJ : ∀ M M', J M → k_F58 M M' → J M') : C_LO J s e σ (s_pl σ) none := by
  intro M h t l4 l5 f P X Y Jx h4 h5 hh ht k g
  obtain ⟨⟨ke, _⟩, ⟨⟨ks, k1, k2⟩, k3, k4⟩, ⟨r0, r1⟩, r2, r3⟩ := k_XE X
  have nn := s_Vn X.2.2
  have ix := k_ix h4 h5 (by omega) (by omega)
  have av : M.2.1 (s + 3) h = σ (38 + 2 * h) := (X.2.1.2.2.1 h (by omega)).1
  rw [if_pos rfl]
  refine x_gR Y.1.1.1 Y.2.1 (x_gR ks r2 (x_aI k3 h4 (by omega) av (x_gI ks X.2.1.2.1.1.1 (x_gO ke (x_eq (C_plainLoss X h4 h5 hh ht) ?_)))))
  refine x_sI Y.1.1.2 ix (by omega) ?_
  have f1 : k_F58 M (mI M 5 (7 * h + t) (s_pl σ h t)) := k_58I (by omega)
  exact g _ f1 (hJ _ _ Jx f1) y_mI1 (fun a ha => mI_ne (Or.inr ha))
theorem C_weigh_L15 {J : gM → Prop} {M0 : gM} {s e h : Nat} {σ : Nat → Int32} {L : Nat → Nat → Int32} {rl : Option Nat} {l4 : Int32} {k3 : Option Nat → Option Nat → Option Nat → Option Nat → Int32 → gM → Option gM} {P : gM → Prop} (hs8 : 8 < s) (he : 8 < e) (Y0 : k_Y M0) (X0 : k_X M0 s e σ) (hJ : ∀ M M', J M → k_F58 M M' → J M') (LO : C_LO J s e σ L rl) (h4 : l4.toInt = (h : Int)) (hh : h < hs_m σ)
    (g : ∀ M', k_F58 M0 M' → J M' → (∀ a b, a < hs_m σ → b < hs_n σ → a < h + 1 → M'.2.1 5 (7 * a + b) = if s_kn σ a b = true then L a b else 0) → Ok (k3 (some 4) (some e) (some s) rl (l4 + 1) M') P) : ∀ (n t : Nat) {l5 : Int32} {M : gM}, k_F58 M0 M → J M → (∀ a b, a < hs_m σ → b < hs_n σ → (a < h ∨ (a = h ∧ b < t)) → M.2.1 5 (7 * a + b) = if s_kn σ a b = true then L a b else 0) → l5.toInt = (t : Int) → t ≤ hs_n σ → hs_n σ - t < n → Ok (F_X10_weigh_L15 k3 n (some 4) (some e) (some s) rl l4 l5 M) P := by
  intro n
  induction n with
  | zero => intro t l5 M F Jx LS h5 ht hn; omega
  | succ n ih =>
    intro t l5 M F Jx LS h5 ht hn
    have X := k_X58 X0 F hs8 he
    have Y := k_Y_m Y0 F.1.1 F.1.2
    obtain ⟨⟨ke, ⟨e6, e7⟩, _⟩, ⟨⟨ks, k1, k2⟩, _⟩, ⟨r0, r1⟩, r2, r3⟩ := k_XE X
    have nn := s_Vn X.2.2
    show Ok (F_X10_weigh_b15 k3 (F_X10_weigh_L15 k3 n) (some 4) (some e) (some s) rl l4 l5 M) P
    delta F_X10_weigh_b15 F_X10_weigh_b127
    refine x_gI ke e6 ?_
    have c0 := i_le_n h5 nn.1.1
    by_cases c : hs_n σ ≤ t
    · rw [if_pos (c0.mpr c)]
      exact g M F Jx (fun a b ha hb p => LS a b ha hb (by omega))
    · have nx := i_nx h5 (by omega)
      have ix := k_ix h4 h5 (by omega) (by omega)
      rw [if_neg (fun z => c (c0.mp z))]
      refine x_gR ks r1 (x_aI k2 ix (by omega) (k_Xst X hh (t := t) (by omega)).1 ?_)
      have kp := (k_Xpos X hh (t := t) (by omega)).2
      have on : ∀ M', k_F58 M M' → J M' → M'.2.1 5 (7 * h + t) = (if s_kn σ h t = true then L h t else 0) → (∀ a, a ≠ 7 * h + t → M'.2.1 5 a = M.2.1 5 a) → Ok (F_X10_weigh_L15 k3 n (some 4) (some e) (some s) rl l4 (l5 + 1) M') P := by
        intro M' f' J' e' o'
        refine ih (t + 1) (k_58t F f') J' (fun a b ha hb p => ?_) nx (by omega) (by omega)
        by_cases eab : a = h ∧ b = t
        · obtain ⟨rfl, rfl⟩ := eab
          exact e'
        · rw [o' _ (by omega)]
          exact LS a b ha hb (by omega)
      by_cases k : s_kn σ h t = true
      · rw [if_neg (fun z => by rw [kp.mp z] at k; cases k)]
        exact LO M h t l4 l5 (fun l1 M' => F_X10_weigh_L15 k3 n (some 4) l1 (some s) rl l4 (l5 + 1) M') P X Y Jx h4 h5 hh (by omega) k (fun M' f' J' e' o' => on M' f' J' (by rw [if_pos k]; exact e') o')
      · rw [if_pos (kp.mpr (b_ff k))]
        refine x_gR Y.1.1.1 Y.2.1 (x_sI Y.1.1.2 ix (by omega) ?_)
        have f1 : k_F58 M (mI M 5 (7 * h + t) 0) := k_58I (by omega)
        exact on _ f1 (hJ _ _ Jx f1) (by rw [y_mI1, if_neg k]) (fun a ha => mI_ne (Or.inr ha))
theorem C_weigh {J : gM → Prop} {M : gM} {s e : Nat} {σ : Nat → Int32} {L : Nat → Nat → Int32} {rl : Option Nat} (hs8 : 8 < s) (he : 8 < e) (Y : k_Y M) (X : k_X M s e σ) (Jx : J M) (hJ : ∀ M M', J M → k_F58 M M' → J M') (LO : C_LO J s e σ L rl) : Ok (F_X10_weigh (some 4) (some e) (some s) rl M) (fun M2 => k_X M2 s e σ ∧ k_Y M2 ∧ k_Ls M2 σ L ∧ (J M2 ∧ k_F58 M M2)) := by
  have nn := s_Vn X.2.2
  have main : ∀ (n h : Nat) {l4 : Int32} {M1 : gM}, k_F58 M M1 → J M1 → (∀ a b, a < hs_m σ → b < hs_n σ → a < h → M1.2.1 5 (7 * a + b) = if s_kn σ a b = true then L a b else 0) → l4.toInt = (h : Int) → h ≤ hs_m σ → hs_m σ - h < n → Ok (F_X10_weigh_L3 n (some 4) (some e) (some s) rl l4 M1) (fun M2 => k_X M2 s e σ ∧ k_Y M2 ∧ k_Ls M2 σ L ∧ (J M2 ∧ k_F58 M M2)) := by
    intro n
    induction n with
    | zero => intro h l4 M1 F J1 LS h4 hh hn; omega
    | succ n ih =>
      intro h l4 M1 F J1 LS h4 hh hn
      have X1 := k_X58 X F hs8 he
      obtain ⟨⟨ke, ⟨e6, e7⟩, _⟩, _⟩ := k_XE X1
      show Ok (F_X10_weigh_b3 (F_X10_weigh_L3 n) (some 4) (some e) (some s) rl l4 M1) _
      delta F_X10_weigh_b3
      refine x_gI ke e7 ?_
      have c0 := i_le_n h4 nn.2.1
      by_cases c : hs_m σ ≤ h
      · rw [if_pos (c0.mpr c)]
        exact Ok_s ⟨X1, k_Y_m Y F.1.1 F.1.2, fun a b ha hb => LS a b ha hb (by omega), J1, F⟩
      · rw [if_neg (fun z => c (c0.mp z))]
        exact C_weigh_L15 hs8 he Y X hJ LO h4 (by omega) (fun M' F' J' LS' => ih (h + 1) F' J' LS' (i_nx h4 (by omega)) (by omega) (by omega)) g_fuel 0 (l5 := 0) F J1 (fun a b ha hb p => LS a b ha hb (by omega)) rfl (Nat.zero_le _) (n_fu (by omega))
  delta F_X10_weigh F_X10_weigh_b0
  exact main g_fuel 0 (l4 := 0) k_58r Jx (fun a b ha hb p => absurd p (Nat.not_lt_zero _)) rfl (Nat.zero_le _) (n_fu (by omega))
