/-! who taught whom: all WAYS, one by one, as the reference counts them -/
def tw_wr (σ : Nat → Int32) (t h : Nat) : Bool := s_kn σ h t && s_va σ h t != σ (10 + 4 * t)
def tw_ch (σ : Nat → Int32) (t h c : Nat) : Bool := c == 7 || (decide (c < hs_m σ) && ((σ (52 + h)).toBitVec.getLsbD c && s_va σ c t == s_va σ h t))
def tw_ok (σ : Nat → Int32) (t h c : Nat) : Bool := if tw_wr σ t h = true then decide (c ≤ 7) && tw_ch σ t h c else c == 8
def tw_rn (f : Nat → Nat) (h : Nat) : Nat → Nat → Bool
  | 0, _ => false
  | n + 1, o => if h < o then false else if o = h then true else tw_rn f h n (f o)
def tw_up (f : Nat → Nat) (h c : Nat) : Nat → Nat := fun j => if j = h then c else f j
def tw_su (F : Nat → Nat) : Nat → Nat
  | 0 => 0
  | n + 1 => tw_su F n + F n
def tw_sm (σ : Nat → Int32) (t : Nat) (g : (Nat → Nat) → Nat) : Nat → Nat → (Nat → Nat) → Nat
  | 0, _, f => g f
  | k + 1, h, f => tw_su (fun c => if tw_ok σ t h c = true ∧ tw_rn (tw_up f h c) h 7 c = false then tw_sm σ t g k (h + 1) (tw_up f h c) else 0) 9
theorem tw_wr_iff {σ : Nat → Int32} {t h : Nat} : tw_wr σ t h = true ↔ s_kn σ h t = true ∧ ¬ s_va σ h t = σ (10 + 4 * t) := by
  unfold tw_wr
  rw [Bool.and_eq_true, bne_iff_ne]
theorem tw_ch_iff {σ : Nat → Int32} {t h c : Nat} : tw_ch σ t h c = true ↔ c = 7 ∨ (c < hs_m σ ∧ ((σ (52 + h)).toBitVec.getLsbD c = true ∧ s_va σ c t = s_va σ h t)) := by
  unfold tw_ch
  rw [Bool.or_eq_true, beq_iff_eq, Bool.and_eq_true, decide_eq_true_eq, Bool.and_eq_true, beq_iff_eq]
theorem tw_ok_w {σ : Nat → Int32} {t h c : Nat} (w : tw_wr σ t h = true) : tw_ok σ t h c = true ↔ c ≤ 7 ∧ tw_ch σ t h c = true := by
  unfold tw_ok
  rw [if_pos w, Bool.and_eq_true, decide_eq_true_eq]
theorem tw_ok_n {σ : Nat → Int32} {t h c : Nat} (w : ¬ tw_wr σ t h = true) : tw_ok σ t h c = true ↔ c = 8 := by
  unfold tw_ok
  rw [if_neg w, beq_iff_eq]
theorem tw_up_e {f : Nat → Nat} {h c : Nat} : tw_up f h c h = c := if_pos rfl
theorem tw_up_n {f : Nat → Nat} {h c j : Nat} (n : j ≠ h) : tw_up f h c j = f j := if_neg n
theorem tw_su_sk {F : Nat → Nat} {u c : Nat} (h : u ≤ c) (z : ∀ i, u ≤ i → i < c → F i = 0) : tw_su F c = tw_su F u := by
  obtain ⟨d, rfl⟩ : ∃ d, c = u + d := ⟨c - u, by omega⟩
  clear h
  induction d with
  | zero => rfl
  | succ d ih =>
    show tw_su F (u + d) + F (u + d) = _
    rw [z (u + d) (by omega) (by omega), Nat.add_zero]
    exact ih (fun i h1 h2 => z i h1 (by omega))
theorem E_isWrong {M : gM} {σ : Nat → Int32} {l1 l2 : Int32} {h t : Nat} (X : e_V M σ) (h1 : l1.toInt = (h : Int)) (h2 : l2.toInt = (t : Int)) (hh : h < 7) (ht : t < 7) : F_X12_isWrong (some 175) l1 l2 M = some (if tw_wr σ t h = true then 1 else 0) := by
  delta F_X12_isWrong F_X12_isWrong_b0 F_X12_isWrong_b28
  rw [e_gO X.1, Option.bind_some, E_knowsOf X h1 h2 hh ht, Option.bind_some]
  by_cases k : s_kn σ h t = true
  · rw [if_pos k, if_neg (by decide), E_valueOf X h1 h2 hh ht, Option.bind_some, E_thingOf X h2 (w := 0) rfl ht (by decide), Option.bind_some, Nat.add_zero]
    by_cases c : s_va σ h t = σ (10 + 4 * t)
    · rw [if_pos c, if_neg (fun z => (tw_wr_iff.mp z).2 c)]
    · rw [if_neg c, if_pos (tw_wr_iff.mpr ⟨k, c⟩)]
  · rw [if_neg k, if_pos rfl, if_neg (fun z => k (tw_wr_iff.mp z).1)]
theorem E_canHave {M : gM} {σ : Nat → Int32} {l1 l2 l3 : Int32} {h c t : Nat} (X : e_V M σ) (h1 : l1.toInt = (h : Int)) (h2 : l2.toInt = (c : Int)) (h3 : l3.toInt = (t : Int)) (hh : h < 7) (hc : c ≤ 7) (ht : t < 7) : F_X12_canHave (some 175) l1 l2 l3 M = some (if tw_ch σ t h c = true then 1 else 0) := by
  have nn := s_Vn X.2.2
  have z7 : (7 : Int32).toInt = 7 := rfl
  have i52 := i_cadd (c := (52 : Int32)) (x := l1) (n := 52) rfl (by omega) (by omega)
  delta F_X12_canHave F_X12_canHave_b0 F_X12_canHave_b53
  by_cases c7 : c = 7
  · rw [if_pos (Int32.toInt_inj.mp (by omega)), if_pos (tw_ch_iff.mpr (Or.inl c7))]
  · rw [if_neg (fun z => by have := i_eq z; omega), e_sd X (k := 2) rfl (by decide)]
    by_cases cm : c < hs_m σ
    · have ig := is_get (a := σ (52 + h)) h2 (by omega)
      rw [if_neg (fun z => by have := i_le z; omega), e_sd X (k := 52 + h) (by omega) (by omega), R_isOf, Option.bind_some]
      by_cases b : hs_is (σ (52 + h)) l2 = 1
      · have g : (σ (52 + h)).toBitVec.getLsbD c = true := by
          by_cases q : (σ (52 + h)).toBitVec.getLsbD c = true
          · exact q
          · rw [if_neg q, b] at ig
            exact absurd ig (by decide)
        rw [if_pos b, if_neg (by decide), e_gO X.1, Option.bind_some, E_valueOf X h2 h3 (by omega) ht, Option.bind_some, E_valueOf X h1 h3 hh ht, Option.bind_some]
        by_cases v : s_va σ c t = s_va σ h t
        · rw [if_pos v, if_pos (tw_ch_iff.mpr (Or.inr ⟨cm, g, v⟩))]
        · rw [if_neg v, if_neg (fun z => by rcases tw_ch_iff.mp z with y | y; exact c7 y; exact v y.2.2)]
      · rw [if_neg b, if_pos rfl, if_neg (fun z => by
          rcases tw_ch_iff.mp z with y | y
          · exact c7 y
          · rw [if_pos y.2.1] at ig
            exact b ig)]
    · rw [if_pos (Int32.le_iff_toInt_le.mpr (by omega)), if_neg (fun z => by rcases tw_ch_iff.mp z with y | y; exact c7 y; exact cm y.1)]
theorem E_isRound_L10 {M : gM} {f : Nat → Nat} {l1 : Int32} {h : Nat} (H : y_HT M) (h1 : l1.toInt = (h : Int)) (hh : h < 7) (hf : ∀ j, j ≤ h → (M.2.1 189 j).toInt = (f j : Int)) : ∀ (n k o : Nat) {l3 l4 : Int32}, l3.toInt = (o : Int) → l4.toInt = (k : Int) → k ≤ 7 → 7 - k < n → F_X12_isRound_L10 M n (some 175) l1 l1 l3 l4 = some (if tw_rn f h (7 - k) o = true then 1 else 0) := by
  have z7 : (7 : Int32).toInt = 7 := rfl
  intro n
  induction n with
  | zero => intro k o l3 l4 _ _ _ hn; omega
  | succ n ih =>
    intro k o l3 l4 h3 h4 hk hn
    show F_X12_isRound_b10 (F_X12_isRound_L10 M n) M (some 175) l1 l1 l3 l4 = _
    delta F_X12_isRound_b10 F_X12_isRound_b42
    by_cases c : k = 7
    · subst c
      rw [if_pos (Int32.le_iff_toInt_le.mpr (by omega))]
      rfl
    · have un : tw_rn f h (7 - k) o = if h < o then false else if o = h then true else tw_rn f h (7 - (k + 1)) (f o) := by
        rw [show 7 - k = (7 - (k + 1)) + 1 by omega]
        rfl
      rw [if_neg (fun z => by have := i_le z; omega), un]
      by_cases d : h < o
      · rw [if_pos (Int32.lt_iff_toInt_lt.mpr (by omega)), if_pos d, if_neg (by decide)]
      · rw [if_neg (fun z => by have := i_lt z; omega), if_neg d]
        by_cases e : o = h
        · rw [if_pos (Int32.toInt_inj.mp (by omega)), if_pos e, if_pos rfl]
        · rw [if_neg (fun z => by have := i_eq z; omega), if_neg e, e_gR H (w := 189) rfl (by decide), Option.bind_some, e_aI H (t := 20) (i := 189) (n := 7) rfl (by decide) (by omega) (by omega), Option.bind_some, i_cl h3]
          exact ih (k + 1) (f o) (hf o (by omega)) (i_nx h4 (by omega)) (by omega) (by omega)
theorem E_isRound {M : gM} {f : Nat → Nat} {l1 : Int32} {h : Nat} (H : y_HT M) (h1 : l1.toInt = (h : Int)) (hh : h < 7) (hf : ∀ j, j ≤ h → (M.2.1 189 j).toInt = (f j : Int)) : F_X12_isRound (some 175) l1 l1 M = some (if tw_rn f h 7 (f h) = true then 1 else 0) := by
  delta F_X12_isRound F_X12_isRound_b0
  rw [e_gR H (w := 189) rfl (by decide), Option.bind_some, e_aI H (t := 20) (i := 189) (n := 7) rfl (by decide) (by omega) (by omega), Option.bind_some, i_cl h1]
  exact E_isRound_L10 H h1 hh hf g_fuel 0 (f h) (l4 := 0) (hf h (Nat.le_refl h)) rfl (by decide) (n_fu (by omega))
/-! what is counted -/
abbrev e_PG : Nat := 2 ^ 29 + 2 ^ 54 + 2 ^ 55
def e_g (M0 M : gM) : Prop := y_HT M ∧ y_Fr e_PG M0 M
def tw_is (h of : Nat) (f : Nat → Nat) : Nat := if f h = of then 1 else 0
def tw_A (m : Nat) (M : gM) (K : ((Nat → Nat) → Nat) → Nat) : Prop := M.2.1 175 29 = Int32.ofNat (K (fun _ => 1)) ∧ ∀ h of, h < m → of < 8 → M.2.1 190 (8 * h + of) = Int32.ofNat (K (tw_is h of))
theorem tw_A_c {m : Nat} {M : gM} {K K' : ((Nat → Nat) → Nat) → Nat} (A : tw_A m M K) (h : ∀ g, K' g = K g) : tw_A m M K' := ⟨by rw [h]; exact A.1, fun a b ha hb => by rw [h]; exact A.2 a b ha hb⟩
theorem o_suc (n : Nat) : Int32.ofNat n + (1 : Int32) = Int32.ofNat (n + 1) := (Int32.ofNat_add n 1).symm
theorem E_cw_L12 {M0 : gM} {σ : Nat → Int32} {f : Nat → Nat} {K : ((Nat → Nat) → Nat) → Nat} (X0 : e_V M0 σ) (f8 : ∀ j, j < hs_m σ → f j ≤ 8) : ∀ (n k : Nat) {l1 : Int32} {M : gM}, e_g M0 M → (∀ j, j < hs_m σ → (M.2.1 189 j).toInt = (f j : Int)) → M.2.1 175 29 = Int32.ofNat (K (fun _ => 1) + 1) → (∀ h of, h < hs_m σ → of < 8 → M.2.1 190 (8 * h + of) = Int32.ofNat (K (tw_is h of) + if h < k then tw_is h of f else 0)) → l1.toInt = (k : Int) → k ≤ hs_m σ → hs_m σ - k < n → Ok (F_X12_countsWay_L12 n (some 175) l1 M) (fun M' => (e_g M0 M' ∧ ∀ j, j < hs_m σ → (M'.2.1 189 j).toInt = (f j : Int)) ∧ tw_A (hs_m σ) M' (fun g => K g + g f)) := by
  have nn := s_Vn X0.2.2
  have z8 : (8 : Int32).toInt = 8 := rfl
  intro n
  induction n with
  | zero => intro k l1 M _ _ _ _ _ _ hn; omega
  | succ n ih =>
    intro k l1 M Z F A1 A2 hl hk hn
    have X := e_V_fr X0 Z.1 Z.2 (by decide)
    show Ok (F_X12_countsWay_b12 (F_X12_countsWay_L12 n) (some 175) l1 M) _
    delta F_X12_countsWay_b12 F_X12_countsWay_b53
    rw [e_sd X (k := 2) rfl (by decide)]
    by_cases c : hs_m σ ≤ k
    · have ek : k = hs_m σ := by omega
      refine Ok_t (Int32.le_iff_toInt_le.mpr (by omega)) (Ok_s ⟨⟨Z, F⟩, A1, fun h of hh ho => ?_⟩)
      rw [A2 h of hh ho, if_pos (by omega)]
    refine Ok_e (fun z => by have := i_le z; omega) ?_
    have fk := F k (by omega)
    have f8k := f8 k (by omega)
    refine y_gR Z.1 (w := 189) rfl (by decide) (y_aI Z.1 (i := 189) (n := 7) rfl (by decide) (by omega) (by omega) (fun v4 e4 => ?_))
    rw [i_cl hl] at e4
    have v4f : v4.toInt = (f k : Int) := by rw [← e4]; exact fk
    have nx : ∀ (h of : Nat), h < hs_m σ → h ≠ k → (if h < k + 1 then tw_is h of f else 0) = (if h < k then tw_is h of f else 0) := fun h of _ hn => by
      by_cases q : h < k
      · rw [if_pos q, if_pos (by omega)]
      · rw [if_neg q, if_neg (by omega)]
    refine Ok_i (fun q => ?_) (fun q => ?_)
    · have := i_le q
      refine ih (k + 1) Z F A1 (fun h of hh ho => ?_) (i_nx hl (by omega)) (by omega) (by omega)
      rw [A2 h of hh ho]
      by_cases hk2 : h = k
      · subst hk2
        have t0 : tw_is h of f = 0 := if_neg (fun z => by omega)
        rw [if_neg (by omega), if_pos (by omega), t0]
      · rw [nx h of hh hk2]
    · have := i_nle q
      have m8 := i_mulL (c := (8 : Int32)) (x := l1) (n := 8) rfl (by omega) (by omega)
      have ix := i_add (x := (8 : Int32) * l1) (y := v4) (by omega) (by omega)
      have ix' : (((8 : Int32) * l1) + v4).toInt = ((8 * k + f k : Nat) : Int) := by omega
      refine y_gR Z.1 (w := 190) rfl (by decide) (y_gR Z.1 (w := 189) rfl (by decide) (y_aI Z.1 (i := 189) (n := 7) rfl (by decide) (by omega) (by omega) (fun v7 e7 => ?_)))
      rw [i_cl hl, e4] at e7
      subst e7
      refine y_aI Z.1 (i := 190) (n := 56) rfl (by decide) (by omega) (by omega) (fun v8 e8 => ?_)
      rw [i_cl ix'] at e8
      refine y_sI (S := e_PG) Z.1 (i := 190) (n := 56) rfl (by omega) (by omega) (y_full rfl) (by decide) (fun M9 H9 f9 e9 o9 _ => ?_)
      rw [i_cl ix'] at e9 o9
      have a189 : ∀ j, M9.2.1 189 j = M.2.1 189 j := fun j => o9 189 j (Or.inl (by decide))
      refine ih (k + 1) ⟨H9, y_tr Z.2 f9⟩ (fun j hj => by rw [a189 j]; exact F j hj) ((o9 175 29 (Or.inl (by decide))).trans A1) (fun h of hh ho => ?_) (i_nx hl (by omega)) (by omega) (by omega)
      by_cases hk2 : h = k
      · subst hk2
        rw [if_pos (by omega)]
        have A := A2 h of hh ho
        rw [if_neg (by omega), Nat.add_zero] at A
        by_cases fo : f h = of
        · subst fo
          rw [e9, ← e8, A, o_suc, show tw_is h (f h) f = 1 from if_pos rfl]
        · rw [o9 190 _ (Or.inr (by omega)), A, show tw_is h of f = 0 from if_neg fo, Nat.add_zero]
      · rw [o9 190 _ (Or.inr (by omega)), A2 h of hh ho, nx h of hh hk2]
theorem E_countsWay {M0 M : gM} {σ : Nat → Int32} {f : Nat → Nat} {K : ((Nat → Nat) → Nat) → Nat} (X0 : e_V M0 σ) (Z : e_g M0 M) (f8 : ∀ j, j < hs_m σ → f j ≤ 8) (F : ∀ j, j < hs_m σ → (M.2.1 189 j).toInt = (f j : Int)) (A : tw_A (hs_m σ) M K) : Ok (F_X12_countsWay (some 175) M) (fun M' => (e_g M0 M' ∧ ∀ j, j < hs_m σ → (M'.2.1 189 j).toInt = (f j : Int)) ∧ tw_A (hs_m σ) M' (fun g => K g + g f)) := by
  delta F_X12_countsWay F_X12_countsWay_b0
  rw [e_gI Z.1, Option.bind_some, A.1]
  refine y_pI (S := e_PG) (k := 29) Z.1 rfl (i_rng _) (by decide) (fun M2 H2 f2 e2 o2 _ => ?_)
  refine E_cw_L12 X0 f8 g_fuel 0 (l1 := 0) ⟨H2, y_tr Z.2 f2⟩ (fun j hj => by rw [o2 189 j (Or.inl (by decide))]; exact F j hj) (by rw [e2, o_suc]) (fun h of hh ho => ?_) rfl (Nat.zero_le _) (n_fu (by have := s_Vn X0.2.2; omega))
  rw [o2 190 _ (Or.inl (by decide)), A.2 h of hh ho, if_neg (Nat.not_lt_zero h), Nat.add_zero]
/-! one by one -/
def tw_R (M0 : gM) (σ : Nat → Int32) (l1 : Int32) (r : gM) (n : Nat) (h : Nat) (f : Nat → Nat) (K : ((Nat → Nat) → Nat) → Nat) (l2 : Int32) : Prop := ∃ n' M', (n' < n ∧ F_X12_gathersWays_L35 n' (some 175) l1 l2 M' = some r) ∧ (e_g M0 M' ∧ ∀ j, j < h → (M'.2.1 189 j).toInt = (f j : Int)) ∧ tw_A (hs_m σ) M' K
theorem tw_R_c {M0 : gM} {σ : Nat → Int32} {l1 l2 : Int32} {r : gM} {n h : Nat} {f : Nat → Nat} {K K' : ((Nat → Nat) → Nat) → Nat} (R : tw_R M0 σ l1 r n h f K l2) (e : ∀ g, K' g = K g) : tw_R M0 σ l1 r n h f K' l2 := by
  obtain ⟨n', M', a, b, A⟩ := R
  exact ⟨n', M', a, b, tw_A_c A e⟩
/-- one choice is made -/
theorem E_gw_b153 {M0 M : gM} {σ : Nat → Int32} {f : Nat → Nat} {K : ((Nat → Nat) → Nat) → Nat} {l1 l2 l3 : Int32} {h c n : Nat} {r : gM} (X0 : e_V M0 σ) (Z : e_g M0 M) (F : ∀ j, j < h → (M.2.1 189 j).toInt = (f j : Int)) (A : tw_A (hs_m σ) M K) (h2 : l2.toInt = (h : Int)) (h3 : l3.toInt = (c : Int)) (hh : h < hs_m σ) (hc : c ≤ 8) (e : F_X12_gathersWays_b153 (F_X12_gathersWays_L35 n) (some 175) l1 l2 l3 (0 : Int32) M = some r) :
    ∃ M2, ((e_g M0 M2 ∧ ∀ j, j < h + 1 → (M2.2.1 189 j).toInt = (tw_up f h c j : Int)) ∧ tw_A (hs_m σ) M2 K) ∧ ((tw_rn (tw_up f h c) h 7 c = true ∧ F_X12_gathersWays_L35 n (some 175) l1 l2 M2 = some r) ∨ (tw_rn (tw_up f h c) h 7 c = false ∧ (h + 1 < hs_m σ → M2.2.1 189 (h + 1) = -1) ∧ F_X12_gathersWays_L35 n (some 175) l1 (l2 + 1) M2 = some r)) := by
  have nn := s_Vn X0.2.2
  have t189 : ∀ (k : Nat) (v : Int32), -1 ≤ v.toInt ∧ v.toInt ≤ 9 → y_rg (y_tI 189 k) v := fun k v hv => hv
  have H := Z.1
  obtain ⟨M2, eM2⟩ : ∃ M2, M2 = mI M 189 h l3 := ⟨_, rfl⟩
  obtain ⟨H2, f2⟩ := y_set (M' := M2) (S := e_PG) H (i := 189) (k := h) (v := l3) (by decide) (by rw [eM2]; rfl) (by rw [eM2]; rfl) (by rw [eM2]; exact y_mI1) (fun j a hj => by rw [eM2]; exact y_mI2 hj) (by rw [eM2]; rfl) (t189 h l3 (by omega)) (by rw [y_c185 (by decide)]; decide)
  have Z2 : e_g M0 M2 := ⟨H2, y_tr Z.2 f2⟩
  have X2 := e_V_fr X0 Z2.1 Z2.2 (by decide)
  have F2 : ∀ j, j < h + 1 → (M2.2.1 189 j).toInt = (tw_up f h c j : Int) := fun j hj => by
    rw [eM2]
    by_cases ej : j = h
    · subst ej
      rw [y_mI1, tw_up_e]
      exact h3
    · rw [mI_ne (Or.inr ej), tw_up_n ej]
      exact F j (by omega)
  have A2 : tw_A (hs_m σ) M2 K := by
    rw [eM2]
    exact ⟨(mI_ne (Or.inl (by decide))).trans A.1, fun a b ha hb => (mI_ne (Or.inl (by decide))).trans (A.2 a b ha hb)⟩
  have ro := E_isRound (f := tw_up f h c) H2 h2 (by omega) (fun j hj => F2 j (by omega))
  rw [tw_up_e] at ro
  delta F_X12_gathersWays_b153 F_X12_gathersWays_b205 at e
  rw [if_pos rfl, e_gR H (w := 189) rfl (by decide), Option.bind_some, e_sI H (i := 189) (n := 7) rfl (by omega) (by omega), Option.bind_some, i_cl h2, ← eM2, e_gO H2, Option.bind_some, ro, Option.bind_some] at e
  by_cases q : tw_rn (tw_up f h c) h 7 c = true
  · rw [if_pos q, if_neg (by decide)] at e
    exact ⟨M2, ⟨⟨Z2, F2⟩, A2⟩, Or.inl ⟨q, e⟩⟩
  · have s1 := i_addc (x := l2) (c := (1 : Int32)) (n := 1) rfl (by omega) (by omega)
    rw [if_neg q, if_pos rfl, e_sd X2 (k := 2) rfl (by decide)] at e
    by_cases d : h + 1 < hs_m σ
    · rw [if_neg (fun z => by have := i_le z; omega), e_gR H2 (w := 189) rfl (by decide), Option.bind_some, e_sI H2 (i := 189) (n := 7) rfl (by omega) (by omega), Option.bind_some, i_cl (show (l2 + (1 : Int32)).toInt = ((h + 1 : Nat) : Int) by omega)] at e
      obtain ⟨H3, f3⟩ := y_set (M' := mI M2 189 (h + 1) (-1 : Int32)) (S := e_PG) H2 (i := 189) (k := h + 1) (v := (-1 : Int32)) (by decide) rfl rfl y_mI1 (fun j a hj => y_mI2 hj) rfl (t189 (h + 1) (-1) (by decide)) (by rw [y_c185 (by decide)]; decide)
      refine ⟨_, ⟨⟨⟨H3, y_tr Z2.2 f3⟩, fun j hj => ?_⟩, ?_⟩, Or.inr ⟨b_ff q, fun _ => y_mI1, e⟩⟩
      · rw [mI_ne (Or.inr (by omega))]
        exact F2 j hj
      · exact ⟨(mI_ne (Or.inl (by decide))).trans A2.1, fun a b ha hb => (mI_ne (Or.inl (by decide))).trans (A2.2 a b ha hb)⟩
    · rw [if_pos (Int32.le_iff_toInt_le.mpr (by omega))] at e
      exact ⟨M2, ⟨⟨Z2, F2⟩, A2⟩, Or.inr ⟨b_ff q, fun z => absurd z d, e⟩⟩
/-- the next that one can have had it of -/
theorem E_gw_L97 {M : gM} {σ : Nat → Int32} {l1 l2 : Int32} {t h n0 : Nat} {r : gM} (X : e_V M σ) (h1 : l1.toInt = (t : Int)) (ht : t < 7) (h2 : l2.toInt = (h : Int)) (hh : h < hs_m σ) : ∀ (n u : Nat) {l3 : Int32}, l3.toInt = (u : Int) → u ≤ 8 → F_X12_gathersWays_L97 (F_X12_gathersWays_L35 n0) n (some 175) l1 l2 l3 M = some r → ∃ (c : Nat) (l : Int32), (u ≤ c ∧ c ≤ 8) ∧ l.toInt = (c : Int) ∧ (∀ i, u ≤ i → i < c → ¬ tw_ch σ t h i = true) ∧ (c ≤ 7 → tw_ch σ t h c = true) ∧ F_X12_gathersWays_b119 (F_X12_gathersWays_L35 n0) (some 175) l1 l2 l M = some r := by
  have nn := s_Vn X.2.2
  have z7 : (7 : Int32).toInt = 7 := rfl
  intro n
  induction n with
  | zero => intro u l3 _ _ e; exact absurd e (fun z => by cases z)
  | succ n ih =>
    intro u l3 h3 hu e
    replace e : F_X12_gathersWays_b97 (F_X12_gathersWays_L35 n0) (F_X12_gathersWays_L97 (F_X12_gathersWays_L35 n0) n) (some 175) l1 l2 l3 M = some r := e
    delta F_X12_gathersWays_b97 at e
    by_cases c : 7 ≤ u
    · rw [if_pos (Int32.le_iff_toInt_le.mpr (by omega))] at e
      exact ⟨u, l3, ⟨Nat.le_refl u, hu⟩, h3, fun i a b => by omega, fun z => tw_ch_iff.mpr (Or.inl (by omega)), e⟩
    · rw [if_neg (fun z => by have := i_le z; omega), e_gO X.1, Option.bind_some, E_canHave X h2 h3 h1 (by omega) (by omega) ht, Option.bind_some] at e
      by_cases k : tw_ch σ t h u = true
      · rw [if_pos k, if_neg (by decide)] at e
        exact ⟨u, l3, ⟨Nat.le_refl u, hu⟩, h3, fun i a b => by omega, fun _ => k, e⟩
      · rw [if_neg k, if_pos rfl] at e
        obtain ⟨c, l, a1, a2, a3, a4, a5⟩ := ih (u + 1) (i_nx h3 (by omega)) (by omega) e
        refine ⟨c, l, by omega, a2, fun i b1 b2 => ?_, a4, a5⟩
        by_cases iu : i = u
        · rw [iu]
          exact k
        · exact a3 i (by omega) b2
theorem E_b153_1 {n : Nat} {M : gM} {l1 l2 l3 : Int32} : F_X12_gathersWays_b153 (F_X12_gathersWays_L35 n) (some 175) l1 l2 l3 (1 : Int32) M = F_X12_gathersWays_L35 n (some 175) l1 (l2 + (-1 : Int32)) M := by
  delta F_X12_gathersWays_b153
  rw [if_neg (by decide)]
theorem E_b119_w {n t h : Nat} {M : gM} {σ : Nat → Int32} {l1 l2 l3 : Int32} (X : e_V M σ) (h1 : l1.toInt = (t : Int)) (ht : t < 7) (h2 : l2.toInt = (h : Int)) (hh : h < 7) (w : tw_wr σ t h = true) : F_X12_gathersWays_b119 (F_X12_gathersWays_L35 n) (some 175) l1 l2 l3 M = if l3 ≤ (7 : Int32) then F_X12_gathersWays_b153 (F_X12_gathersWays_L35 n) (some 175) l1 l2 l3 (0 : Int32) M else F_X12_gathersWays_L35 n (some 175) l1 (l2 + (-1 : Int32)) M := by
  delta F_X12_gathersWays_b119
  rw [e_gO X.1, Option.bind_some, E_isWrong X h2 h1 hh ht, Option.bind_some, if_pos w, if_neg (by decide), E_b153_1]
theorem E_b119_n {n t h : Nat} {M : gM} {σ : Nat → Int32} {l1 l2 l3 : Int32} (X : e_V M σ) (h1 : l1.toInt = (t : Int)) (ht : t < 7) (h2 : l2.toInt = (h : Int)) (hh : h < 7) (w : ¬ tw_wr σ t h = true) : F_X12_gathersWays_b119 (F_X12_gathersWays_L35 n) (some 175) l1 l2 l3 M = if l3 ≤ (8 : Int32) then F_X12_gathersWays_b153 (F_X12_gathersWays_L35 n) (some 175) l1 l2 l3 (0 : Int32) M else F_X12_gathersWays_L35 n (some 175) l1 (l2 + (-1 : Int32)) M := by
  delta F_X12_gathersWays_b119
  rw [e_gO X.1, Option.bind_some, E_isWrong X h2 h1 hh ht, Option.bind_some, if_neg w, if_pos rfl, E_b153_1]
theorem E_b35_w {n t h : Nat} {M : gM} {σ : Nat → Int32} {l1 l2 : Int32} (X : e_V M σ) (h1 : l1.toInt = (t : Int)) (ht : t < 7) (h2 : l2.toInt = (h : Int)) (hh : h < hs_m σ) (w : tw_wr σ t h = true) : F_X12_gathersWays_L35 (n + 1) (some 175) l1 l2 M = F_X12_gathersWays_L97 (F_X12_gathersWays_L35 n) g_fuel (some 175) l1 l2 (M.2.1 189 h + 1) M := by
  have nn := s_Vn X.2.2
  have z0 : (0 : Int32).toInt = 0 := rfl
  show F_X12_gathersWays_b35 (F_X12_gathersWays_L35 n) (some 175) l1 l2 M = _
  delta F_X12_gathersWays_b35
  rw [if_neg (fun z => by have := i_lt z; omega), e_sd X (k := 2) rfl (by decide), if_neg (fun z => by have := i_eq z; omega), e_gR X.1 (w := 189) rfl (by decide), Option.bind_some, e_aI X.1 (t := 20) (i := 189) (n := 7) rfl (by decide) (by omega) (by omega), Option.bind_some, e_gO X.1, Option.bind_some, E_isWrong X h2 h1 (by omega) ht, Option.bind_some, if_pos w, if_neg (by decide), i_cl h2]
theorem E_b35_n {n t h : Nat} {M : gM} {σ : Nat → Int32} {l1 l2 : Int32} (X : e_V M σ) (h1 : l1.toInt = (t : Int)) (ht : t < 7) (h2 : l2.toInt = (h : Int)) (hh : h < hs_m σ) (w : ¬ tw_wr σ t h = true) : F_X12_gathersWays_L35 (n + 1) (some 175) l1 l2 M = if 0 ≤ M.2.1 189 h then F_X12_gathersWays_b119 (F_X12_gathersWays_L35 n) (some 175) l1 l2 (9 : Int32) M else F_X12_gathersWays_b119 (F_X12_gathersWays_L35 n) (some 175) l1 l2 (8 : Int32) M := by
  have nn := s_Vn X.2.2
  have z0 : (0 : Int32).toInt = 0 := rfl
  show F_X12_gathersWays_b35 (F_X12_gathersWays_L35 n) (some 175) l1 l2 M = _
  delta F_X12_gathersWays_b35 F_X12_gathersWays_b93
  rw [if_neg (fun z => by have := i_lt z; omega), e_sd X (k := 2) rfl (by decide), if_neg (fun z => by have := i_eq z; omega), e_gR X.1 (w := 189) rfl (by decide), Option.bind_some, e_aI X.1 (t := 20) (i := 189) (n := 7) rfl (by decide) (by omega) (by omega), Option.bind_some, e_gO X.1, Option.bind_some, E_isWrong X h2 h1 (by omega) ht, Option.bind_some, if_neg w, if_pos rfl, e_gR X.1 (w := 189) rfl (by decide), Option.bind_some, e_aI X.1 (t := 20) (i := 189) (n := 7) rfl (by decide) (by omega) (by omega), Option.bind_some, i_cl h2]
theorem E_b35_m {n h : Nat} {M : gM} {σ : Nat → Int32} {l1 l2 : Int32} (X : e_V M σ) (h2 : l2.toInt = (h : Int)) (hh : h = hs_m σ) : F_X12_gathersWays_L35 (n + 1) (some 175) l1 l2 M = (F_X12_countsWay (some 175) M).bind fun M10 => F_X12_gathersWays_L35 n (some 175) l1 (l2 + (-1 : Int32)) M10 := by
  have nn := s_Vn X.2.2
  have z0 : (0 : Int32).toInt = 0 := rfl
  show F_X12_gathersWays_b35 (F_X12_gathersWays_L35 n) (some 175) l1 l2 M = _
  delta F_X12_gathersWays_b35
  rw [if_neg (fun z => by have := i_lt z; omega), e_sd X (k := 2) rfl (by decide), if_pos (Int32.toInt_inj.mp (by omega)), e_gO X.1, Option.bind_some]
theorem E_L35_0 {l1 l2 : Int32} {M r : gM} {P : Prop} (e : F_X12_gathersWays_L35 0 (some 175) l1 l2 M = some r) : P := by
  cases e
/-- what a level's choices come to -/
def tw_F (σ : Nat → Int32) (t k h : Nat) (f : Nat → Nat) (g : (Nat → Nat) → Nat) (c : Nat) : Nat := if tw_ok σ t h c = true ∧ tw_rn (tw_up f h c) h 7 c = false then tw_sm σ t g k (h + 1) (tw_up f h c) else 0
theorem tw_F_sk {σ : Nat → Int32} {t k h u c : Nat} {f : Nat → Nat} (g : (Nat → Nat) → Nat) (h1 : u ≤ c) (h2 : ∀ i, u ≤ i → i < c → ¬ tw_ok σ t h i = true) : tw_su (tw_F σ t k h f g) c = tw_su (tw_F σ t k h f g) u := tw_su_sk h1 (fun i a b => if_neg (fun z => h2 i a b z.1))
theorem tw_F_no {σ : Nat → Int32} {t k h c : Nat} {f : Nat → Nat} (g : (Nat → Nat) → Nat) (q : tw_rn (tw_up f h c) h 7 c = true) : tw_su (tw_F σ t k h f g) (c + 1) = tw_su (tw_F σ t k h f g) c := by
  show tw_su (tw_F σ t k h f g) c + tw_F σ t k h f g c = _
  have : tw_F σ t k h f g c = 0 := if_neg (fun z => by rw [q] at z; cases z.2)
  rw [this, Nat.add_zero]
theorem tw_F_ye {σ : Nat → Int32} {t k h c : Nat} {f : Nat → Nat} (g : (Nat → Nat) → Nat) (ok : tw_ok σ t h c = true) (q : tw_rn (tw_up f h c) h 7 c = false) : tw_su (tw_F σ t k h f g) (c + 1) = tw_su (tw_F σ t k h f g) c + tw_sm σ t g k (h + 1) (tw_up f h c) := by
  show tw_su (tw_F σ t k h f g) c + tw_F σ t k h f g c = _
  have : tw_F σ t k h f g c = tw_sm σ t g k (h + 1) (tw_up f h c) := if_pos ⟨ok, q⟩
  rw [this]
/-- all from a level on, entered anew -/
def tw_P (M0 : gM) (σ : Nat → Int32) (l1 : Int32) (t : Nat) (r : gM) (k h : Nat) : Prop := ∀ (f : Nat → Nat) (K : ((Nat → Nat) → Nat) → Nat) (n : Nat) (l2 : Int32) (M : gM), (∀ j, j < h → f j ≤ 8) → e_g M0 M → (∀ j, j < h → (M.2.1 189 j).toInt = (f j : Int)) → (h < hs_m σ → M.2.1 189 h = -1) → tw_A (hs_m σ) M K → l2.toInt = (h : Int) → F_X12_gathersWays_L35 n (some 175) l1 l2 M = some r → tw_R M0 σ l1 r n h f (fun g => K g + tw_sm σ t g k h f) (l2 + (-1 : Int32))
/-- from the u-th choice on -/
def tw_Q (M0 : gM) (σ : Nat → Int32) (l1 : Int32) (t : Nat) (r : gM) (k h : Nat) (f : Nat → Nat) (K : ((Nat → Nat) → Nat) → Nat) (l2 : Int32) (u : Nat) : Prop := ∀ (n : Nat) (M : gM), u ≤ 9 → (¬ tw_wr σ t h = true → u = 0 ∨ u = 9) → (tw_wr σ t h = true → u ≤ 8) → e_g M0 M → (∀ j, j < h → (M.2.1 189 j).toInt = (f j : Int)) → (M.2.1 189 h).toInt = (u : Int) - 1 → tw_A (hs_m σ) M (fun g => K g + tw_su (tw_F σ t k h f g) u) → F_X12_gathersWays_L35 n (some 175) l1 l2 M = some r → tw_R M0 σ l1 r n h f (fun g => K g + tw_su (tw_F σ t k h f g) 9) (l2 + (-1 : Int32))
theorem i_pm {x : Int32} : x + 1 + (-1 : Int32) = x := by
  rw [Int32.add_assoc, show (1 : Int32) + (-1 : Int32) = 0 from by decide, Int32.add_zero]
/-- a choice c is made: on behind it -/
theorem E_gw_made {M0 M : gM} {σ : Nat → Int32} {l1 l2 l : Int32} {t : Nat} {r : gM} {k h n u c : Nat} {f : Nat → Nat} {K : ((Nat → Nat) → Nat) → Nat} (X0 : e_V M0 σ) (P : tw_P M0 σ l1 t r k (h + 1)) (Q : tw_Q M0 σ l1 t r k h f K l2 (c + 1)) (f8 : ∀ j, j < h → f j ≤ 8) (Z : e_g M0 M) (F : ∀ j, j < h → (M.2.1 189 j).toInt = (f j : Int)) (A : tw_A (hs_m σ) M (fun g => K g + tw_su (tw_F σ t k h f g) u)) (h2 : l2.toInt = (h : Int)) (hh : h < hs_m σ) (hl : l.toInt = (c : Int)) (uc : u ≤ c) (c8 : c ≤ 8) (ok : tw_ok σ t h c = true) (nok : ∀ i, u ≤ i → i < c → ¬ tw_ok σ t h i = true) (cn : ¬ tw_wr σ t h = true → c = 8) (cw : tw_wr σ t h = true → c ≤ 7) (e : F_X12_gathersWays_b153 (F_X12_gathersWays_L35 n) (some 175) l1 l2 l (0 : Int32) M = some r) : tw_R M0 σ l1 r (n + 1) h f (fun g => K g + tw_su (tw_F σ t k h f g) 9) (l2 + (-1 : Int32)) := by
  have nn := s_Vn X0.2.2
  obtain ⟨M2, ⟨⟨Z2, F2⟩, A2⟩, e2⟩ := E_gw_b153 X0 Z F A h2 hl hh c8 e
  have sk := fun g => tw_F_sk (σ := σ) (t := t) (k := k) (h := h) (f := f) g uc nok
  have F2' : ∀ j, j < h → (M2.2.1 189 j).toInt = (f j : Int) := fun j hj => by
    have := F2 j (by omega)
    rw [tw_up_n (by omega)] at this
    exact this
  have F2h : (M2.2.1 189 h).toInt = ((c + 1 : Nat) : Int) - 1 := by
    have := F2 h (by omega)
    rw [tw_up_e] at this
    omega
  rcases e2 with ⟨q, e2⟩ | ⟨q, Fm2, e2⟩
  · obtain ⟨n', M', ⟨a1, a2⟩, b⟩ := Q n M2 (by omega) (fun w => Or.inr (by have := cn w; omega)) (fun w => by have := cw w; omega) Z2 F2' F2h (tw_A_c A2 (fun g => by rw [tw_F_no g q, sk g])) e2
    exact ⟨n', M', ⟨by omega, a2⟩, b⟩
  · have s1 := i_addc (x := l2) (c := (1 : Int32)) (n := 1) rfl (by omega) (by omega)
    have f8' : ∀ j, j < h + 1 → tw_up f h c j ≤ 8 := fun j hj => by
      by_cases ej : j = h
      · rw [ej, tw_up_e]
        exact c8
      · rw [tw_up_n ej]
        exact f8 j (by omega)
    obtain ⟨n2, M3, ⟨a1, a2⟩, ⟨Z3, F3⟩, A3⟩ := P (tw_up f h c) (fun g => K g + tw_su (tw_F σ t k h f g) u) n (l2 + 1) M2 f8' Z2 F2 Fm2 A2 (by omega) e2
    rw [i_pm] at a2
    have F3' : ∀ j, j < h → (M3.2.1 189 j).toInt = (f j : Int) := fun j hj => by
      have := F3 j (by omega)
      rw [tw_up_n (by omega)] at this
      exact this
    have F3h : (M3.2.1 189 h).toInt = ((c + 1 : Nat) : Int) - 1 := by
      have := F3 h (by omega)
      rw [tw_up_e] at this
      omega
    obtain ⟨n', M', ⟨b1, b2⟩, b⟩ := Q n2 M3 (by omega) (fun w => Or.inr (by have := cn w; omega)) (fun w => by have := cw w; omega) Z3 F3' F3h (tw_A_c A3 (fun g => by rw [tw_F_ye g ok q, sk g, Nat.add_assoc])) a2
    exact ⟨n', M', ⟨by omega, b2⟩, b⟩
theorem E_gw_Q {M0 : gM} {σ : Nat → Int32} {l1 l2 : Int32} {t : Nat} {r : gM} {k h : Nat} {f : Nat → Nat} {K : ((Nat → Nat) → Nat) → Nat} (X0 : e_V M0 σ) (h1 : l1.toInt = (t : Int)) (ht : t < 7) (P : tw_P M0 σ l1 t r k (h + 1)) (f8 : ∀ j, j < h → f j ≤ 8) (h2 : l2.toInt = (h : Int)) (hh : h < hs_m σ) : ∀ (D u : Nat), 9 - u ≤ D → tw_Q M0 σ l1 t r k h f K l2 u := by
  have nn := s_Vn X0.2.2
  have z0 : (0 : Int32).toInt = 0 := rfl
  have z7 : (7 : Int32).toInt = 7 := rfl
  intro D
  induction D with
  | zero =>
    intro u hD n M u9 un9 uw8 Z F Fu A e
    have hu : u = 9 := by omega
    have w : ¬ tw_wr σ t h = true := fun w => by have := uw8 w; omega
    have X := e_V_fr X0 Z.1 Z.2 (by decide)
    cases n with
    | zero => exact E_L35_0 e
    | succ n =>
      rw [E_b35_n X h1 ht h2 hh w, if_pos (Int32.le_iff_toInt_le.mpr (by omega)), E_b119_n X h1 ht h2 (by omega) w, if_neg (by decide)] at e
      subst hu
      exact ⟨n, M, ⟨Nat.lt_succ_self n, e⟩, ⟨Z, F⟩, A⟩
  | succ D ihD =>
    intro u hD n M u9 un9 uw8 Z F Fu A e
    by_cases hu9 : 9 - u ≤ D
    · exact ihD u hu9 n M u9 un9 uw8 Z F Fu A e
    have X := e_V_fr X0 Z.1 Z.2 (by decide)
    cases n with
    | zero => exact E_L35_0 e
    | succ n =>
      by_cases w : tw_wr σ t h = true
      · have s1 := i_addc (x := M.2.1 189 h) (c := (1 : Int32)) (n := 1) rfl (by omega) (by omega)
        rw [E_b35_w X h1 ht h2 hh w] at e
        obtain ⟨c, l, ⟨c1, c2⟩, hl, nch, ch, e⟩ := E_gw_L97 X h1 ht h2 hh g_fuel u (l3 := M.2.1 189 h + 1) (by omega) (uw8 w) e
        rw [E_b119_w X h1 ht h2 (by omega) w] at e
        have nok : ∀ i, u ≤ i → i < c → ¬ tw_ok σ t h i = true := fun i a b z => nch i a b ((tw_ok_w w).mp z).2
        by_cases c7 : c ≤ 7
        · rw [if_pos (Int32.le_iff_toInt_le.mpr (by omega))] at e
          exact E_gw_made X0 P (ihD (c + 1) (by omega)) f8 Z F A h2 hh hl c1 c2 ((tw_ok_w w).mpr ⟨c7, ch c7⟩) nok (fun z => absurd w z) (fun _ => c7) e
        · rw [if_neg (fun z => by have := i_le z; omega)] at e
          refine tw_R_c ⟨n, M, ⟨Nat.lt_succ_self n, e⟩, ⟨Z, F⟩, A⟩ (fun g => ?_)
          rw [tw_F_sk g (u := u) (c := 9) (by omega) (fun i a b z => by
            by_cases ic : i < c
            · exact nok i a ic z
            · have := ((tw_ok_w w).mp z).1
              omega)]
      · have u0 : u = 0 := by have := un9 w; omega
        subst u0
        rw [E_b35_n X h1 ht h2 hh w, if_neg (fun z => by have := i_le z; omega), E_b119_n X h1 ht h2 (by omega) w, if_pos (by decide)] at e
        exact E_gw_made X0 P (ihD 9 (by omega)) f8 Z F A h2 hh (c := 8) (l := 8) rfl (by omega) (by omega) ((tw_ok_n w).mpr rfl) (fun i a b z => by have := (tw_ok_n w).mp z; omega) (fun _ => rfl) (fun z => absurd z w) e
theorem E_gw {M0 : gM} {σ : Nat → Int32} {l1 : Int32} {t : Nat} {r : gM} (X0 : e_V M0 σ) (h1 : l1.toInt = (t : Int)) (ht : t < 7) : ∀ (k h : Nat), h + k = hs_m σ → tw_P M0 σ l1 t r k h := by
  have nn := s_Vn X0.2.2
  intro k
  induction k with
  | zero =>
    intro h hk f K n l2 M f8 Z F _ A h2 e
    have X := e_V_fr X0 Z.1 Z.2 (by decide)
    cases n with
    | zero => exact E_L35_0 e
    | succ n =>
      obtain ⟨M', em, z, A'⟩ := E_countsWay (K := K) X0 Z (fun j hj => f8 j (by omega)) (fun j hj => F j (by omega)) A
      rw [E_b35_m X h2 (by omega), em, Option.bind_some] at e
      exact ⟨n, M', ⟨Nat.lt_succ_self n, e⟩, ⟨z.1, fun j hj => z.2 j (by omega)⟩, A'⟩
  | succ k ihk =>
    intro h hk f K n l2 M f8 Z F Fm A h2 e
    have hh : h < hs_m σ := by omega
    have R := E_gw_Q (K := K) X0 h1 ht (ihk (h + 1) (by omega)) f8 h2 hh 9 0 (by decide) n M (by decide) (fun _ => Or.inl rfl) (fun _ => by decide) Z F (by rw [Fm hh]; rfl) (tw_A_c A (fun g => rfl)) e
    exact tw_R_c R (fun g => rfl)
theorem E_gathersWays_L2 {M0 : gM} {σ : Nat → Int32} {l1 : Int32} {t : Nat} {r : gM} (X0 : e_V M0 σ) (h1 : l1.toInt = (t : Int)) (ht : t < 7) : ∀ (n k : Nat) {l2 : Int32} {M : gM}, e_g M0 M → (∀ j, j < k → M.2.1 190 j = 0) → l2.toInt = (k : Int) → k ≤ 56 → F_X12_gathersWays_L2 n (some 175) l1 l2 M = some r → e_g M0 r ∧ tw_A (hs_m σ) r (fun g => tw_sm σ t g (hs_m σ) 0 (fun _ => 0)) := by
  have nn := s_Vn X0.2.2
  have z56 : (56 : Int32).toInt = 56 := rfl
  have z0 : (0 : Int32).toInt = 0 := rfl
  intro n
  induction n with
  | zero => intro k l2 M _ _ _ _ e; exact absurd e (fun z => by cases z)
  | succ n ih =>
    intro k l2 M Z C hl hk e
    replace e : F_X12_gathersWays_b2 (F_X12_gathersWays_L2 n) (some 175) l1 l2 M = some r := e
    delta F_X12_gathersWays_b2 at e
    by_cases c : k = 56
    · rw [if_pos (Int32.le_iff_toInt_le.mpr (by omega)), e_pI Z.1, Option.bind_some] at e
      obtain ⟨H1, f1⟩ := y_set (M' := mI M 175 29 (0 : Int32)) (S := e_PG) Z.1 (i := 175) (k := 29) (v := (0 : Int32)) (by decide) rfl rfl y_mI1 (fun j a hj => y_mI2 hj) rfl (y_full rfl) (by decide)
      rw [e_gR H1 (w := 189) rfl (by decide), Option.bind_some, e_sI H1 (i := 189) (n := 7) rfl (by decide) (by decide), Option.bind_some] at e
      obtain ⟨H2, f2⟩ := y_set (M' := mI (mI M 175 29 (0 : Int32)) 189 0 (-1 : Int32)) (S := e_PG) H1 (i := 189) (k := 0) (v := (-1 : Int32)) (by decide) rfl rfl y_mI1 (fun j a hj => y_mI2 hj) rfl (show -1 ≤ (-1 : Int32).toInt ∧ (-1 : Int32).toInt ≤ 9 from by decide) (by decide)
      obtain ⟨n', M', ⟨a1, a2⟩, ⟨Z', _⟩, A'⟩ := E_gw X0 h1 ht (hs_m σ) 0 (by omega) (fun _ => 0) (fun _ => 0) _ 0 _ (fun j hj => absurd hj (Nat.not_lt_zero j)) ⟨H2, y_tr Z.2 (y_tr f1 f2)⟩ (fun j hj => absurd hj (Nat.not_lt_zero j)) (fun _ => y_mI1) ⟨(mI_ne (Or.inl (by decide))).trans y_mI1, fun h of hh ho => (mI_ne (Or.inl (by decide))).trans ((mI_ne (Or.inl (by decide))).trans (C _ (by omega)))⟩ rfl e
      cases n' with
      | zero => exact absurd a2 (fun z => by cases z)
      | succ n' =>
        replace a2 : F_X12_gathersWays_b35 (F_X12_gathersWays_L35 n') (some 175) l1 ((0 : Int32) + (-1 : Int32)) M' = some r := a2
        delta F_X12_gathersWays_b35 at a2
        rw [if_pos (by decide)] at a2
        obtain rfl := Option.some.inj a2
        exact ⟨Z', tw_A_c A' (fun g => (Nat.zero_add _).symm)⟩
    · rw [if_neg (fun z => by have := i_le z; omega), e_gR Z.1 (w := 190) rfl (by decide), Option.bind_some, e_sI Z.1 (i := 190) (n := 56) rfl (by omega) (by omega), Option.bind_some, i_cl hl] at e
      obtain ⟨H1, f1⟩ := y_set (M' := mI M 190 k (0 : Int32)) (S := e_PG) Z.1 (i := 190) (k := k) (v := (0 : Int32)) (by decide) rfl rfl y_mI1 (fun j a hj => y_mI2 hj) rfl (y_full rfl) (by rw [y_c185 (by decide)]; decide)
      refine ih (k + 1) ⟨H1, y_tr Z.2 f1⟩ (fun j hj => ?_) (i_nx hl (by omega)) (by omega) e
      by_cases jk : j = k
      · rw [jk, y_mI1]
      · rw [mI_ne (Or.inr jk)]
        exact C j (by omega)
theorem E_gathersWays {M : gM} {σ : Nat → Int32} {l1 : Int32} {t : Nat} (X : e_V M σ) (h1 : l1.toInt = (t : Int)) (ht : t < hs_n σ) : Ok (F_X12_gathersWays (some 175) l1 M) (fun M' => e_g M M' ∧ tw_A (hs_m σ) M' (fun g => tw_sm σ t g (hs_m σ) 0 (fun _ => 0))) := by
  have nn := s_Vn X.2.2
  obtain ⟨M', e, _⟩ := S_X12_gathersWays (l1 := l1) X.1 (by omega)
  refine ⟨M', e, ?_⟩
  delta F_X12_gathersWays F_X12_gathersWays_b0 at e
  exact E_gathersWays_L2 X h1 (by omega) g_fuel 0 (l2 := 0) ⟨X.1, y_rf0 _ _⟩ (fun j hj => absurd hj (Nat.not_lt_zero j)) rfl (Nat.zero_le _) e
