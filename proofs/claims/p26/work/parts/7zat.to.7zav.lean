-- 7zat.prompts
/-! PROMPTS: what one loses at an AGE -/
def s_pa (σ : Nat → Int32) (h t : Nat) (g : Int32) : Int32 :=
  let a := if hs_is (σ 8) (Int32.ofNat t) = 1 then σ (11 + 4 * t) * (2 : Int32) else σ (11 + 4 * t)
  let b := if hs_is (σ 7) (Int32.ofNat t) = 1 then a / 2 else a
  let c := b + g / 20
  if hs_is (σ 6) (Int32.ofNat h) = 1 then c / 2 else c
theorem pa_a {a g : Int32} (hg : 0 ≤ g.toInt ∧ g.toInt ≤ 99) (ha : 0 ≤ a.toInt ∧ a.toInt ≤ 40) : 0 ≤ (a + g / 20).toInt ∧ (a + g / 20).toInt ≤ 44 := by
  have d := i_div (x := g) (c := (20 : Int32)) (n := 20) rfl (by decide) (by omega)
  have e := i_add (x := a) (y := g / 20) (by omega) (by omega)
  omega
theorem pa_r {σ : Nat → Int32} {h t : Nat} {g : Int32} (V : s_V σ) (ht : t < hs_n σ) (hg : 0 ≤ g.toInt ∧ g.toInt ≤ 99) : 0 ≤ (s_pa σ h t g).toInt ∧ (s_pa σ h t g).toInt ≤ 44 := by
  have b := (s_pl_b V ht).1
  unfold s_pa
  dsimp only
  generalize (if hs_is (σ 8) (Int32.ofNat t) = 1 then σ (11 + 4 * t) * (2 : Int32) else σ (11 + 4 * t)) = a at b ⊢
  have c := s_half (a := a) (c := hs_is (σ 7) (Int32.ofNat t) = 1) ⟨b.1, by omega⟩
  generalize (if hs_is (σ 7) (Int32.ofNat t) = 1 then a / 2 else a) = a2 at c ⊢
  have d := pa_a (a := a2) hg ⟨c.1, by omega⟩
  generalize a2 + g / 20 = a3 at d ⊢
  have e := s_half (a := a3) (c := hs_is (σ 6) (Int32.ofNat h) = 1) d
  omega
theorem CA_plainLoss {M : gM} {s e h t : Nat} {σ : Nat → Int32} {l1 l2 g : Int32} (X : k_X M s e σ) (h1 : l1.toInt = (h : Int)) (h2 : l2.toInt = (t : Int)) (hh : h < hs_m σ) (ht : t < hs_n σ) : F_X1_plainLoss (some e) l1 l2 (g) (σ 8) M = some (s_pa σ h t g) := by
  obtain ⟨⟨ke, ⟨e6, e7⟩, e9, e10⟩, _⟩ := k_XE X
  have nn := s_Vn X.2.2
  have R1 : g_k M (e + 2) = (20, 7) ∧ M.2.2.2 e 1 = some (e + 2) := k_XR (i := 1) X (by decide)
  have fd : M.2.1 (e + 2) t = σ (11 + 4 * t) := (X.2.1.1.2.2.1 t (by omega)).1.2
  have n1 := i_nt h1 (by omega)
  have n2 := i_nt h2 (by omega)
  delta F_X1_plainLoss F_X1_plainLoss_b0 F_X1_plainLoss_b27 F_X1_plainLoss_b47
  unfold s_pa
  dsimp only
  have ai : aI 20 M (some (e + 2)) l2 = some (σ (11 + 4 * t)) := by rw [t_aI R1.1 (by omega) (by omega), i_cl h2, fd]
  have g9 : gI 1 M (some e) 9 = some (σ 7) := by rw [t_gI ke, e9]
  have g10 : gI 1 M (some e) 10 = some (σ 6) := by rw [t_gI ke, e10]
  simp only [C_bit, Option.bind_some, t_gR ke R1.2, ai, g9, g10, ← n1, ← n2]
  by_cases c1 : hs_is (σ 8) l2 = 1
  · simp only [if_pos c1, Option.bind_some, t_gR ke R1.2, ai, g9, g10]
    by_cases c2 : hs_is (σ 7) l2 = 1
    · simp only [if_pos c2, Option.bind_some]
      by_cases c3 : hs_is (σ 6) l1 = 1
      · simp only [if_pos c3]
      · simp only [if_neg c3]
    · simp only [if_neg c2, Option.bind_some]
      by_cases c3 : hs_is (σ 6) l1 = 1
      · simp only [if_pos c3]
      · simp only [if_neg c3]
  · simp only [if_neg c1, Option.bind_some, t_gR ke R1.2, ai, g9, g10]
    by_cases c2 : hs_is (σ 7) l2 = 1
    · simp only [if_pos c2, Option.bind_some]
      by_cases c3 : hs_is (σ 6) l1 = 1
      · simp only [if_pos c3]
      · simp only [if_neg c3]
    · simp only [if_neg c2, Option.bind_some]
      by_cases c3 : hs_is (σ 6) l1 = 1
      · simp only [if_pos c3]
      · simp only [if_neg c3]
theorem EA_fades {M : gM} {h t : Nat} {σ : Nat → Int32} {l1 l2 g : Int32} (hg : 0 ≤ g.toInt ∧ g.toInt ≤ 99) (X : e_V M σ) (h1 : l1.toInt = (h : Int)) (h2 : l2.toInt = (t : Int)) (hh : h < hs_m σ) (ht : t < hs_n σ) : F_X12_fades (some 175) l1 l2 (g) M = some (s_pa σ h t g) := by
  have nn := s_Vn X.2.2
  have b := s_pl_b X.2.2 ht
  have n1 := i_nt h1 (by omega)
  have n2 := i_nt h2 (by omega)
  have z99 : (99 : Int32).toInt = 99 := rfl
  delta F_X12_fades F_X12_fades_b0
  rw [e_gO X.1, Option.bind_some, E_thingOf X h2 (w := 1) rfl (by omega) (by decide), Option.bind_some, show 10 + 4 * t + 1 = 11 + 4 * t by omega, e_sd X (k := 8) rfl (by decide), R_isOf, Option.bind_some]
  unfold s_pa
  dsimp only
  rw [← n1, ← n2, b.2]
  rw [← n2, b.2] at b
  have b71 : ∀ a : Int32, F_X12_fades_b71 M (some 175) l1 a = some (if hs_is (σ 6) l1 = 1 then a / 2 else a) := by
    intro a
    delta F_X12_fades_b71
    rw [e_sd X (k := 6) rfl (by decide), R_isOf, Option.bind_some]
    by_cases c : hs_is (σ 6) l1 = 1
    · rw [if_pos c, if_pos c, if_neg (by decide)]
    · rw [if_neg c, if_neg c, if_pos rfl]
  have b48 : ∀ a : Int32, 0 ≤ a.toInt ∧ a.toInt ≤ 40 → F_X12_fades_b48 M (some 175) l1 (g) a = some (if hs_is (σ 6) l1 = 1 then (a + g / 20) / 2 else a + g / 20) := by
    intro a ha
    have r := pa_a hg ha
    delta F_X12_fades_b48
    rw [if_pos (Int32.le_iff_toInt_le.mpr (by omega)), b71]
  have b28 : ∀ a : Int32, 0 ≤ a.toInt ∧ a.toInt ≤ 40 → F_X12_fades_b28 M (some 175) l1 l2 (g) a = some (if hs_is (σ 6) l1 = 1 then ((if hs_is (σ 7) l2 = 1 then a / 2 else a) + g / 20) / 2 else (if hs_is (σ 7) l2 = 1 then a / 2 else a) + g / 20) := by
    intro a ha
    have r := s_half (a := a) (c := hs_is (σ 7) l2 = 1) ⟨ha.1, by omega⟩
    delta F_X12_fades_b28
    rw [e_sd X (k := 7) rfl (by decide), R_isOf, Option.bind_some]
    by_cases c : hs_is (σ 7) l2 = 1
    · rw [if_pos c] at r
      rw [if_pos c, if_pos c, if_neg (by decide)]
      exact b48 _ ⟨r.1, by omega⟩
    · rw [if_neg c, if_neg c, if_pos rfl]
      exact b48 _ ha
  by_cases c : hs_is (σ 8) l2 = 1
  · rw [if_pos c] at b
    rw [if_pos c, if_pos c, if_neg (by decide)]
    exact b28 _ b.1
  · rw [if_neg c] at b
    rw [if_neg c, if_neg c, if_pos rfl]
    exact b28 _ b.1
/-! the fewest, as late as can be -/
def s_ga (σ : Nat → Int32) (h i : Nat) : Int32 := if (σ (38 + 2 * h)).toInt + (i : Int) < 99 then σ (38 + 2 * h) + Int32.ofNat i else 99
theorem ga_i {σ : Nat → Int32} {h i : Nat} (hg : 0 ≤ (σ (38 + 2 * h)).toInt ∧ (σ (38 + 2 * h)).toInt ≤ 99) (hi : i ≤ 1000) : (s_ga σ h i).toInt = if (σ (38 + 2 * h)).toInt + (i : Int) < 99 then (σ (38 + 2 * h)).toInt + (i : Int) else 99 := by
  have e : (Int32.ofNat i).toInt = (i : Int) := i_ofNat (by omega)
  unfold s_ga
  by_cases c : (σ (38 + 2 * h)).toInt + (i : Int) < 99
  · rw [if_pos c, if_pos c, i_add (by omega) (by omega), e]
  · rw [if_neg c, if_neg c]
    rfl
theorem ga_r {σ : Nat → Int32} {h i : Nat} (hg : 0 ≤ (σ (38 + 2 * h)).toInt ∧ (σ (38 + 2 * h)).toInt ≤ 99) (hi : i ≤ 1000) : 0 ≤ (s_ga σ h i).toInt ∧ (s_ga σ h i).toInt ≤ 99 := by
  rw [ga_i hg hi]
  split <;> omega
def s_pk (L s : Nat) : Nat := if L < s then 0 else (L - s) / 10 + 1
theorem pk_r {L s : Nat} (hL : L ≤ 44) (hs : 1 ≤ s ∧ s ≤ 99) : (L < s + 10 * s_pk L s ∧ s + 10 * s_pk L s - L ≤ 99) ∧ s_pk L s ≤ 5 ∧ s + 10 * s_pk L s ≤ 99 := by
  unfold s_pk
  by_cases c : L < s
  · rw [if_pos c]
    omega
  · rw [if_neg c]
    omega
theorem pk_0 {L s : Nat} (h : L < s) : s_pk L s = 0 := if_pos h
theorem pk_1 {L s : Nat} (h : ¬ L < s) : s_pk L s = s_pk L (s + 10) + 1 := by
  unfold s_pk
  rw [if_neg h]
  by_cases c : L < s + 10
  · rw [if_pos c]
    omega
  · rw [if_neg c]
    omega
theorem pk_ex {L s c x v j y : Nat} (h1 : c ≤ v) (h2 : (x : Int) ≤ (s : Int) + 10 * ((v : Int) - (c : Int))) (hy : y ≤ x + 10 * j) (hp : L < y) : c + s_pk L s ≤ v + j ∧ ((y - L : Nat) : Int) ≤ ((s + 10 * s_pk L s - L : Nat) : Int) + 10 * (((v + j : Nat) : Int) - ((c + s_pk L s : Nat) : Int)) := by
  unfold s_pk
  by_cases c : L < s
  · rw [if_pos c]
    omega
  · rw [if_neg c]
    omega
def s_pg (L : Nat → Nat) (s : Nat) : Nat → Nat × Nat
  | 0 => (s, 0)
  | i + 1 => ((s_pg L s i).1 + 10 * s_pk (L i) (s_pg L s i).1 - L i, (s_pg L s i).2 + s_pk (L i) (s_pg L s i).1)
theorem pg_r {L : Nat → Nat} {s : Nat} (hL : ∀ i, L i ≤ 44) (hs : 1 ≤ s ∧ s ≤ 99) : ∀ i, (1 ≤ (s_pg L s i).1 ∧ (s_pg L s i).1 ≤ 99) ∧ (s_pg L s i).2 ≤ 5 * i := by
  intro i
  induction i with
  | zero => exact ⟨hs, Nat.le_refl _⟩
  | succ i ih =>
    have k := pk_r (hL i) ih.1
    show (1 ≤ (s_pg L s i).1 + 10 * s_pk (L i) (s_pg L s i).1 - L i ∧ (s_pg L s i).1 + 10 * s_pk (L i) (s_pg L s i).1 - L i ≤ 99) ∧ (s_pg L s i).2 + s_pk (L i) (s_pg L s i).1 ≤ 5 * (i + 1)
    omega
def s_pL (σ : Nat → Int32) (h t i : Nat) : Nat := if i ≤ 1000 then (s_pa σ h t (s_ga σ h i)).toNatClampNeg else 0
def s_pp (σ : Nat → Int32) (h t : Nat) : Nat → Nat × Nat := s_pg (s_pL σ h t) (s_st σ h t).toNatClampNeg
theorem pL_i {σ : Nat → Int32} {h t i : Nat} (V : s_V σ) (hh : h < hs_m σ) (ht : t < hs_n σ) (hi : i ≤ 1000) : (s_pa σ h t (s_ga σ h i)).toInt = (s_pL σ h t i : Int) ∧ (0 ≤ (s_ga σ h i).toInt ∧ (s_ga σ h i).toInt ≤ 99) := by
  have nn := s_Vn V
  have g := ga_r (i := i) (V.2.2.2 h (by omega)).1 hi
  have r := pa_r (h := h) V ht g
  have c := i_clamp r.1
  unfold s_pL
  rw [if_pos hi]
  exact ⟨c.symm, g⟩
theorem pL_r {σ : Nat → Int32} {h t : Nat} (V : s_V σ) (hh : h < hs_m σ) (ht : t < hs_n σ) (i : Nat) : s_pL σ h t i ≤ 44 := by
  by_cases c : i ≤ 1000
  · have g := pL_i V hh ht c
    have r := pa_r (h := h) V ht g.2
    omega
  · unfold s_pL
    rw [if_neg c]
    omega
theorem pp_r {σ : Nat → Int32} {h t : Nat} (V : s_V σ) (hh : h < hs_m σ) (ht : t < hs_n σ) (k : s_kn σ h t = true) (i : Nat) : (1 ≤ (s_pp σ h t i).1 ∧ (s_pp σ h t i).1 ≤ 99) ∧ (s_pp σ h t i).2 ≤ 5 * i := by
  have nn := s_Vn V
  have st := (s_kn1 V hh (t := t) (by omega) k).2
  have c := i_clamp (x := s_st σ h t) (by omega)
  exact pg_r (pL_r V hh ht) (by omega) i
/-! of the class -/
theorem C_prompts_L102 {k54 : Option Nat → Int32 → Int32 → Int32 → Int32 → Int32 → Int32 → Option Int32} {M : gM} {l1 l2 l3 l6 l8 : Int32} {L : Nat} {w : Option Int32} (h8 : l8.toInt = (L : Int)) (hL : L ≤ 44) : ∀ (n j s c : Nat) {l4 l5 l9 : Int32}, l4.toInt = (s : Int) → 1 ≤ s ∧ s ≤ 99 → l5.toInt = (c : Int) → c + s_pk L s ≤ 1000 → l9.toInt = (j : Int) → j + s_pk L s ≤ 10 → 10 - j < n → k54 (some 2) l1 l2 l3 (Int32.ofNat (s + 10 * s_pk L s - L)) (Int32.ofNat (c + s_pk L s)) (l6 + 1) = w → F_X11_prompts_L102 k54 M n (some 2) l1 l2 l3 l4 l5 l6 l8 l9 = w := by
  have z10 : (10 : Int32).toInt = 10 := rfl
  have z99 : (99 : Int32).toInt = 99 := rfl
  intro n
  induction n with
  | zero => intro j s c l4 l5 l9 _ _ _ _ _ _ hn; omega
  | succ n ih =>
    intro j s c l4 l5 l9 h4 hs h5 hc h9 hj hn hk
    have pr := pk_r hL hs
    show F_X11_prompts_b102 k54 (F_X11_prompts_L102 k54 M n) M (some 2) l1 l2 l3 l4 l5 l6 l8 l9 = w
    delta F_X11_prompts_b102
    by_cases d : l8 < l4
    · have d' := i_lt d
      have k0 := pk_0 (L := L) (s := s) (by omega)
      have sb := i_sub (x := l4) (y := l8) (by omega) (by omega)
      rw [k0] at hk
      have e : F_X11_prompts_b132 k54 M (some 2) l1 l2 l3 l4 l5 l6 l8 = w := by
        delta F_X11_prompts_b132
        rw [if_pos d, i_of (x := l4 - l8) (n := s + 10 * 0 - L) (by omega) (by omega), i_of (x := l5) (n := c + 0) (by omega) (by omega)]
        exact hk
      by_cases q : (10 : Int32) ≤ l9
      · rw [if_pos q]
        exact e
      · rw [if_neg q, if_pos d]
        exact e
    · have d' := i_nlt d
      have k1 := pk_1 (L := L) (s := s) (by omega)
      have a1 := i_addc (x := l4) (c := (10 : Int32)) (n := 10) rfl (by omega) (by omega)
      have pd : F_X11_prompted l4 M = some (l4 + (10 : Int32)) := by
        delta F_X11_prompted F_X11_prompted_b0
        rw [if_pos (Int32.lt_iff_toInt_lt.mpr (by omega))]
      rw [if_neg (fun z => by have := i_le z; omega), if_neg d, pd, Option.bind_some]
      rw [k1] at hk hj hc
      refine ih (j + 1) (s + 10) (c + 1) (by omega) (by omega) (i_nx h5 (by omega)) (by omega) (i_nx h9 (by omega)) (by omega) (by omega) ?_
      rw [show s + 10 + 10 * s_pk L (s + 10) - L = s + 10 * (s_pk L (s + 10) + 1) - L by omega, show c + 1 + s_pk L (s + 10) = c + (s_pk L (s + 10) + 1) by omega]
      exact hk
theorem C_prompts_L54 {M : gM} {e a b N : Nat} {σ : Nat → Int32} {l1 l2 l3 : Int32} (G : k_G M) (r11 : M.2.2.2 2 11 = some e) (X : k_X M 9 e σ) (a1 : l1.toInt = (a : Int)) (b1 : l2.toInt = (b : Int)) (ha : a < hs_m σ) (hb : b < hs_n σ) (k : s_kn σ a b = true) (h3 : l3.toInt = (N : Int)) (hN : N ≤ 40) : ∀ (n i : Nat) {l4 l5 l6 : Int32}, l4.toInt = ((s_pp σ a b i).1 : Int) → l5.toInt = ((s_pp σ a b i).2 : Int) → l6.toInt = (i : Int) → i ≤ N → N - i < n → F_X11_prompts_L54 M n (some 2) l1 l2 l3 l4 l5 l6 = some (Int32.ofNat (s_pp σ a b N).2) := by
  have V := X.2.2
  have nn := s_Vn V
  have k2 := G_k2 G
  obtain ⟨⟨ke, _⟩, ⟨⟨ks, _⟩, k3, _⟩, _, r2, _⟩ := k_XE X
  have ag : M.2.1 (9 + 3) a = σ (38 + 2 * a) := (X.2.1.2.2.1 a (by omega)).1
  have v8 : M.2.1 9 4 = σ 8 := X.2.1.2.1.1.1
  have gr := (V.2.2.2 a (by omega)).1
  have z99 : (99 : Int32).toInt = 99 := rfl
  intro n
  induction n with
  | zero => intro i l4 l5 l6 _ _ _ _ hn; omega
  | succ n ih =>
    intro i l4 l5 l6 h4 h5 h6 hi hn
    have pp := pp_r V ha hb k i
    show F_X11_prompts_b54 (F_X11_prompts_L54 M n) M (some 2) l1 l2 l3 l4 l5 l6 = _
    delta F_X11_prompts_b54
    by_cases c : l3 ≤ l6
    · have := i_le c
      have e0 : i = N := by omega
      subst e0
      rw [if_pos c, i_of h5 (by omega)]
    · have := i_nle c
      have ai : aI 20 M (some (9 + 3)) l1 = some (σ (38 + 2 * a)) := by rw [t_aI k3 (by omega) (by omega), i_cl a1, ag]
      have ad := i_add (x := σ (38 + 2 * a)) (y := l6) (by omega) (by omega)
      have n6 := i_of h6 (by omega)
      have eg : (if σ (38 + 2 * a) + l6 < (99 : Int32) then σ (38 + 2 * a) + l6 else (99 : Int32)) = s_ga σ a i := by
        unfold s_ga
        rw [← n6]
        by_cases d : (σ (38 + 2 * a)).toInt + (i : Int) < 99
        · rw [if_pos d, if_pos (Int32.lt_iff_toInt_lt.mpr (by omega))]
        · rw [if_neg d, if_neg (fun z => by have := i_lt z; omega)]
      have pl := CA_plainLoss (g := s_ga σ a i) X a1 b1 ha hb
      have Li := (pL_i V ha hb (i := i) (by omega)).1
      have Lr := pL_r V ha hb i
      have pr := pk_r Lr pp.1
      rw [if_neg c]
      simp only [t_gR k2 (G_r5 G), t_gR ks r2, t_gR k2 r11, t_gI ks, t_gO ke, Option.bind_some, ai, v8, eg, pl]
      refine C_prompts_L102 (k54 := F_X11_prompts_L54 M n) Li Lr g_fuel 0 _ _ h4 pp.1 h5 (by omega) rfl (by omega) (n_fu (by omega)) ?_
      have un : s_pp σ a b (i + 1) = ((s_pp σ a b i).1 + 10 * s_pk (s_pL σ a b i) (s_pp σ a b i).1 - s_pL σ a b i, (s_pp σ a b i).2 + s_pk (s_pL σ a b i) (s_pp σ a b i).1) := rfl
      refine ih (i + 1) ?_ ?_ (i_nx h6 (by omega)) (by omega) (by omega)
      · rw [un]
        exact i_ofNat (by omega)
      · rw [un]
        exact i_ofNat (by omega)
/-! of the reference: what can be -/
def pq_J (f : Nat → Int32) (s c B : Nat) (d : Prop) : Prop := (∀ q : Nat, q < 100 → 0 ≤ (f q).toInt → (1 ≤ q ∧ (c : Int) ≤ (f q).toInt ∧ (q : Int) ≤ (s : Int) + 10 * ((f q).toInt - (c : Int))) ∧ (f q).toInt ≤ (B : Int)) ∧ (d → 0 ≤ (f s).toInt ∧ (f s).toInt ≤ (c : Int))
theorem pJ_w {f : Nat → Int32} {s c B : Nat} {d d' : Prop} (h : pq_J f s c B d) (hd : d' → d) : pq_J f s c B d' := ⟨h.1, fun z => h.2 (hd z)⟩
theorem pJ_c {f g : Nat → Int32} {s c B : Nat} {d : Prop} (h : pq_J f s c B d) (hs : s < 100) (e : ∀ q, q < 100 → g q = f q) : pq_J g s c B d := by
  refine ⟨fun q hq h0 => ?_, fun z => ?_⟩
  · rw [e q hq] at h0 ⊢
    exact h.1 q hq h0
  · rw [e s hs]
    exact h.2 z
theorem pJ_up {g g' : Nat → Int32} {s c B z v : Nat} {d d' : Prop} (h : pq_J g s c B d) (hz : 1 ≤ z) (e : (g' z).toInt = (v : Int)) (o : ∀ q, q ≠ z → g' q = g q) (hc : c ≤ v) (hb : (z : Int) ≤ (s : Int) + 10 * ((v : Int) - (c : Int))) (hB : v ≤ B) (hd : d' → d ∨ (z = s ∧ v = c)) (lt : (g z).toInt < 0 ∨ (v : Int) < (g z).toInt) : pq_J g' s c B d' := by
  refine ⟨fun q hq h0 => ?_, fun dd => ?_⟩
  · by_cases k : q = z
    · subst k
      rw [e]
      omega
    · rw [o q k] at h0 ⊢
      exact h.1 q hq h0
  · by_cases k : s = z
    · subst k
      rw [e]
      rcases hd dd with d1 | d1
      · have := h.2 d1
        omega
      · omega
    · rw [o s k]
      rcases hd dd with d1 | d1
      · exact h.2 d1
      · exact absurd d1.1.symm k
theorem pJ_no {g : Nat → Int32} {s c B z v : Nat} {d d' : Prop} (h : pq_J g s c B d) (ge : 0 ≤ (g z).toInt ∧ (g z).toInt ≤ (v : Int)) (hd : d' → d ∨ (z = s ∧ v = c)) : pq_J g s c B d' := by
  refine ⟨h.1, fun dd => ?_⟩
  rcases hd dd with d1 | d1
  · exact h.2 d1
  · rw [d1.1, d1.2] at ge
    exact ge
abbrev e_PP : Nat := 2 ^ 56 + 2 ^ 57
def e_p (M0 M : gM) : Prop := y_HT M ∧ y_Fr e_PP M0 M
theorem E_py_L31 {M0 : gM} {s c B L x : Nat} {l1 l2 : Int32} {k23 : Option Nat → Int32 → Int32 → gM → Option gM} {Q : gM → Prop} (h1 : l1.toInt = (L : Int)) (hL : L ≤ 44) (hs : 1 ≤ s ∧ s ≤ 99) (hB : B ≤ 2000) (h2 : l2.toInt = (x : Int)) (hx : 1 ≤ x ∧ x ≤ 99)
    (hk : ∀ {M : gM}, e_p M0 M → pq_J (M.2.1 191) s c B True → pq_J (M.2.1 192) (s + 10 * s_pk L s - L) (c + s_pk L s) (B + 10) (s ≤ x) → Ok (k23 (some 175) l1 (l2 + 1) M) Q) : ∀ (n j : Nat) {l3 : Int32} {M : gM}, e_p M0 M → pq_J (M.2.1 191) s c B True → pq_J (M.2.1 192) (s + 10 * s_pk L s - L) (c + s_pk L s) (B + 10) (s < x ∨ (s = x ∧ s_pk L s < j)) → l3.toInt = (j : Int) → j ≤ 11 → 11 - j < n → Ok (F_X12_promptsYear_L31 k23 n (some 175) l1 l2 l3 M) Q := by
  have z10 : (10 : Int32).toInt = 10 := rfl
  have z99 : (99 : Int32).toInt = 99 := rfl
  have z0 : (0 : Int32).toInt = 0 := rfl
  have pr := pk_r hL hs
  intro n
  induction n with
  | zero => intro j l3 M _ _ _ _ _ hn; omega
  | succ n ih =>
    intro j l3 M Z F G h3 hj hn
    show Ok (F_X12_promptsYear_b31 k23 (F_X12_promptsYear_L31 k23 n) (some 175) l1 l2 l3 M) Q
    delta F_X12_promptsYear_b31 F_X12_promptsYear_b126
    refine Ok_i (fun q => ?_) (fun q => ?_)
    · have := i_lt q
      exact hk Z F (pJ_w G (fun z => by omega))
    have q' := i_nlt q
    refine y_gR Z.1 (w := 191) rfl (by decide) (y_aI Z.1 (i := 191) (n := 100) rfl (by decide) (by omega) (by omega) (fun v2 e2 => ?_))
    rw [i_cl h2] at e2
    refine Ok_i (fun q2 => ?_) (fun q2 => ?_)
    · have := i_lt q2
      refine hk Z F (pJ_w G (fun z => ?_))
      by_cases sx : s = x
      · have f := (F.2 trivial).1
        rw [sx, e2] at f
        omega
      · omega
    have q2' := i_nlt q2
    obtain ⟨v, hv⟩ : ∃ v : Nat, v2.toInt = (v : Int) := ⟨v2.toInt.toNat, by omega⟩
    have fx := F.1 x (by omega) (by rw [e2]; omega)
    rw [e2, hv] at fx
    have m10 := i_mulL (c := (10 : Int32)) (x := l3) (n := 10) rfl (by omega) (by omega)
    have s10 := i_add (x := l2) (y := (10 : Int32) * l3) (by omega) (by omega)
    have go : ∀ (s0 : Int32) (y : Nat), s0.toInt = (y : Int) → y ≤ 99 → y ≤ x + 10 * j → (x + 10 * j ≤ 99 → y = x + 10 * j) → Ok (F_X12_promptsYear_b68 k23 (F_X12_promptsYear_L31 k23 n) (some 175) l1 l2 l3 s0 M) Q := by
      intro s0 y hy y99 yx yy
      have sb := i_sub (x := s0) (y := l1) (by omega) (by omega)
      delta F_X12_promptsYear_b68 F_X12_promptsYear_b120
      refine Ok_i (fun r => ?_) (fun r => ?_)
      · have := i_le r
        refine ih (j + 1) Z F (pJ_w G (fun z => ?_)) (i_nx h3 (by omega)) (by omega) (by omega)
        by_cases w : s = x ∧ s_pk L s = j
        · have := yy (by omega)
          omega
        · omega
      have r' := i_nle r
      have ex := pk_ex (L := L) (s := s) (c := c) (x := x) (v := v) (j := j) (y := y) (by omega) fx.1.2.2 yx (by omega)
      have hz : (s0 - l1).toInt = ((y - L : Nat) : Int) := by omega
      have dd : (s < x ∨ (s = x ∧ s_pk L s < j + 1)) → (s < x ∨ (s = x ∧ s_pk L s < j)) ∨ (y - L = s + 10 * s_pk L s - L ∧ v + j = c + s_pk L s) := fun z => by
        by_cases w : s = x ∧ s_pk L s = j
        · have := yy (by omega)
          have f := (F.2 trivial).2
          rw [w.1, e2] at f
          omega
        · omega
      refine y_gR Z.1 (w := 192) rfl (by decide) (y_aI Z.1 (i := 192) (n := 100) rfl (by decide) (by omega) (by omega) (fun g1 eg1 => ?_))
      rw [i_cl hz] at eg1
      have upd : g1.toInt < 0 ∨ ((v + j : Nat) : Int) < g1.toInt → Ok (F_X12_promptsYear_b105 k23 (F_X12_promptsYear_L31 k23 n) (some 175) l1 l2 l3 (s0 - l1) M) Q := by
        intro lt
        delta F_X12_promptsYear_b105 F_X12_promptsYear_b120
        refine y_gR Z.1 (w := 192) rfl (by decide) (y_gR Z.1 (w := 191) rfl (by decide) (y_aI Z.1 (i := 191) (n := 100) rfl (by decide) (by omega) (by omega) (fun v3 e3 => ?_)))
        rw [i_cl h2, e2] at e3
        subst e3
        have ad := i_add (x := v2) (y := l3) (by omega) (by omega)
        refine y_sI (S := e_PP) Z.1 (i := 192) (n := 100) rfl (by omega) (by omega) (y_full rfl) (by decide) (fun M4 H4 f4 e4 o4 _ => ?_)
        rw [i_cl hz] at e4 o4
        have o1 : M4.2.1 191 = M.2.1 191 := funext (fun a => o4 191 a (Or.inl (by decide)))
        refine ih (j + 1) ⟨H4, y_tr Z.2 f4⟩ (by rw [o1]; exact F) ?_ (i_nx h3 (by omega)) (by omega) (by omega)
        exact pJ_up G (z := y - L) (v := v + j) (by omega) (by rw [e4]; omega) (fun a ha => o4 192 a (Or.inr ha)) ex.1 ex.2 (by omega) dd (by rw [eg1]; exact lt)
      refine Ok_i (fun u => upd (Or.inl (by have := i_lt u; omega))) (fun u => ?_)
      have u' := i_nlt u
      refine y_gR Z.1 (w := 191) rfl (by decide) (y_aI Z.1 (i := 191) (n := 100) rfl (by decide) (by omega) (by omega) (fun v4 e4 => ?_))
      rw [i_cl h2, e2] at e4
      subst e4
      refine y_gR Z.1 (w := 192) rfl (by decide) (y_aI Z.1 (i := 192) (n := 100) rfl (by decide) (by omega) (by omega) (fun v6 e6 => ?_))
      rw [i_cl hz, eg1] at e6
      subst e6
      have ad := i_add (x := v2) (y := l3) (by omega) (by omega)
      refine Ok_i (fun w => ?_) (fun w => upd (Or.inr (by have := i_nle w; omega)))
      have := i_le w
      exact ih (j + 1) Z F (pJ_no G (z := y - L) (v := v + j) (by rw [eg1]; omega) dd) (i_nx h3 (by omega)) (by omega) (by omega)
    refine Ok_i (fun r => ?_) (fun r => ?_)
    · have := i_le r
      exact go _ (x + 10 * j) (by omega) (by omega) (by omega) (fun _ => rfl)
    · have := i_nle r
      exact go _ 99 (by omega) (by omega) (by omega) (fun z => by omega)
theorem E_py_L134 {M0 : gM} {s c B : Nat} (hs : s < 100) : ∀ (n k : Nat) {l2 : Int32} {M : gM}, e_p M0 M → pq_J (M.2.1 192) s c B True → (∀ q, q < k → M.2.1 191 q = M.2.1 192 q) → l2.toInt = (k : Int) → k ≤ 100 → 100 - k < n → Ok (F_X12_promptsYear_L134 n (some 175) l2 M) (fun M' => e_p M0 M' ∧ pq_J (M'.2.1 191) s c B True) := by
  have z99 : (99 : Int32).toInt = 99 := rfl
  intro n
  induction n with
  | zero => intro k l2 M _ _ _ _ _ hn; omega
  | succ n ih =>
    intro k l2 M Z G C hl hk hn
    show Ok (F_X12_promptsYear_b134 (F_X12_promptsYear_L134 n) (some 175) l2 M) _
    delta F_X12_promptsYear_b134
    refine Ok_i (fun q => ?_) (fun q => ?_)
    · have := i_lt q
      exact Ok_s ⟨Z, pJ_c G hs (fun a ha => C a (by omega))⟩
    have := i_nlt q
    refine y_gR Z.1 (w := 191) rfl (by decide) (y_gR Z.1 (w := 192) rfl (by decide) (y_aI Z.1 (i := 192) (n := 100) rfl (by decide) (by omega) (by omega) (fun v3 e3 => ?_)))
    rw [i_cl hl] at e3
    refine y_sI (S := e_PP) Z.1 (i := 191) (n := 100) rfl (by omega) (by omega) (y_full rfl) (by decide) (fun M4 H4 f4 e4 o4 _ => ?_)
    rw [i_cl hl] at e4 o4
    have o1 : M4.2.1 192 = M.2.1 192 := funext (fun a => o4 192 a (Or.inl (by decide)))
    refine ih (k + 1) ⟨H4, y_tr Z.2 f4⟩ (by rw [o1]; exact G) (fun a ha => ?_) (i_nx hl (by omega)) (by omega) (by omega)
    rw [o1]
    by_cases ak : a = k
    · rw [ak, e4, e3]
    · rw [o4 191 a (Or.inr ak)]
      exact C a (by omega)
theorem E_py_L23 {M0 : gM} {s c B L : Nat} {l1 : Int32} (h1 : l1.toInt = (L : Int)) (hL : L ≤ 44) (hs : 1 ≤ s ∧ s ≤ 99) (hB : B ≤ 2000) : ∀ (n x : Nat) {l2 : Int32} {M : gM}, e_p M0 M → pq_J (M.2.1 191) s c B True → pq_J (M.2.1 192) (s + 10 * s_pk L s - L) (c + s_pk L s) (B + 10) (s < x) → l2.toInt = (x : Int) → 1 ≤ x → x ≤ 100 → 100 - x < n → Ok (F_X12_promptsYear_L23 n (some 175) l1 l2 M) (fun M' => e_p M0 M' ∧ pq_J (M'.2.1 191) (s + 10 * s_pk L s - L) (c + s_pk L s) (B + 10) True) := by
  have z99 : (99 : Int32).toInt = 99 := rfl
  have pr := pk_r hL hs
  intro n
  induction n with
  | zero => intro x l2 M _ _ _ _ _ _ hn; omega
  | succ n ih =>
    intro x l2 M Z F G hl hx1 hx hn
    show Ok (F_X12_promptsYear_b23 (F_X12_promptsYear_L23 n) (some 175) l1 l2 M) _
    delta F_X12_promptsYear_b23
    refine Ok_i (fun q => ?_) (fun q => ?_)
    · have := i_lt q
      exact E_py_L134 (by omega) g_fuel 0 (l2 := 0) Z (pJ_w G (fun _ => by omega)) (fun a ha => absurd ha (Nat.not_lt_zero a)) rfl (Nat.zero_le _) (n_fu (by omega))
    · have := i_nlt q
      refine E_py_L31 (k23 := F_X12_promptsYear_L23 n) h1 hL hs hB hl (by omega) (fun {M2} Z2 F2 G2 => ?_) g_fuel 0 (l3 := 0) Z F (pJ_w G (fun z => by omega)) rfl (Nat.zero_le _) (n_fu (by omega))
      exact ih (x + 1) Z2 F2 (pJ_w G2 (fun z => by omega)) (i_nx hl (by omega)) (by omega) (by omega) (by omega)
theorem E_py_L2 {M0 : gM} {s c B L : Nat} {l1 : Int32} (h1 : l1.toInt = (L : Int)) (hL : L ≤ 44) (hs : 1 ≤ s ∧ s ≤ 99) (hB : B ≤ 2000) : ∀ (n k : Nat) {l2 : Int32} {M : gM}, e_p M0 M → pq_J (M.2.1 191) s c B True → (∀ q, q < k → M.2.1 192 q = -1) → l2.toInt = (k : Int) → k ≤ 100 → 100 - k < n → Ok (F_X12_promptsYear_L2 n (some 175) l1 l2 M) (fun M' => e_p M0 M' ∧ pq_J (M'.2.1 191) (s + 10 * s_pk L s - L) (c + s_pk L s) (B + 10) True) := by
  have z99 : (99 : Int32).toInt = 99 := rfl
  have zm : (-1 : Int32).toInt = -1 := rfl
  intro n
  induction n with
  | zero => intro k l2 M _ _ _ _ _ hn; omega
  | succ n ih =>
    intro k l2 M Z F C hl hk hn
    show Ok (F_X12_promptsYear_b2 (F_X12_promptsYear_L2 n) (some 175) l1 l2 M) _
    delta F_X12_promptsYear_b2
    refine Ok_i (fun q => ?_) (fun q => ?_)
    · have := i_lt q
      refine E_py_L23 h1 hL hs hB g_fuel 1 (l2 := 1) Z F ⟨fun a ha h0 => ?_, fun z => by omega⟩ rfl (by decide) (by decide) (n_fu (by omega))
      rw [C a (by omega)] at h0
      omega
    have := i_nlt q
    refine y_gR Z.1 (w := 192) rfl (by decide) (y_sI (S := e_PP) Z.1 (i := 192) (n := 100) rfl (by omega) (by omega) (y_full rfl) (by decide) (fun M4 H4 f4 e4 o4 _ => ?_))
    rw [i_cl hl] at e4 o4
    have o1 : M4.2.1 191 = M.2.1 191 := funext (fun a => o4 191 a (Or.inl (by decide)))
    refine ih (k + 1) ⟨H4, y_tr Z.2 f4⟩ (by rw [o1]; exact F) (fun a ha => ?_) (i_nx hl (by omega)) (by omega) (by omega)
    by_cases ak : a = k
    · rw [ak, e4]
    · rw [o4 192 a (Or.inr ak)]
      exact C a (by omega)
theorem E_promptsYear {M0 M : gM} {s c B L : Nat} {l1 : Int32} (h1 : l1.toInt = (L : Int)) (hL : L ≤ 44) (hs : 1 ≤ s ∧ s ≤ 99) (hB : B ≤ 2000) (Z : e_p M0 M) (F : pq_J (M.2.1 191) s c B True) : Ok (F_X12_promptsYear (some 175) l1 M) (fun M' => e_p M0 M' ∧ pq_J (M'.2.1 191) (s + 10 * s_pk L s - L) (c + s_pk L s) (B + 10) True) := by
  delta F_X12_promptsYear F_X12_promptsYear_b0
  exact E_py_L2 h1 hL hs hB g_fuel 0 (l2 := 0) Z F (fun a ha => absurd ha (Nat.not_lt_zero a)) rfl (Nat.zero_le _) (n_fu (by omega))
theorem E_prompts_L153 {M : gM} {s c B : Nat} (H : y_HT M) (F : pq_J (M.2.1 191) s c B True) (hs : s ≤ 99) (hc : c ≤ 2000) : ∀ (n x : Nat) {l5 l6 : Int32}, (l5.toInt < 0 ∨ (c : Int) ≤ l5.toInt) → (s < x → 0 ≤ l5.toInt ∧ l5.toInt ≤ (c : Int)) → l6.toInt = (x : Int) → 1 ≤ x → x ≤ 100 → 100 - x < n → Ok (F_X12_prompts_L153 n (some 175) l5 l6 M) (fun q => q.1 = Int32.ofNat c) := by
  have z99 : (99 : Int32).toInt = 99 := rfl
  have z0 : (0 : Int32).toInt = 0 := rfl
  intro n
  induction n with
  | zero => intro x l5 l6 _ _ _ _ _ hn; omega
  | succ n ih =>
    intro x l5 l6 J1 J2 hl hx1 hx hn
    show Ok (F_X12_prompts_b153 (F_X12_prompts_L153 n) (some 175) l5 l6 M) _
    delta F_X12_prompts_b153 F_X12_prompts_b187 F_X12_prompts_b196
    refine Ok_i (fun q => ?_) (fun q => ?_)
    · have := i_lt q
      have := J2 (by omega)
      exact Ok_s (show l5 = Int32.ofNat c from i_of (by omega) (by omega))
    have := i_nlt q
    refine y_gR H (w := 191) rfl (by decide) (y_aI H (i := 191) (n := 100) rfl (by decide) (by omega) (by omega) (fun v2 e2 => ?_))
    rw [i_cl hl] at e2
    have f2 := F.2 trivial
    refine Ok_i (fun q2 => ?_) (fun q2 => ?_)
    · have := i_lt q2
      refine ih (x + 1) J1 (fun z => ?_) (i_nx hl (by omega)) (by omega) (by omega) (by omega)
      by_cases sx : s = x
      · rw [sx, e2] at f2
        omega
      · exact J2 (by omega)
    have q2' := i_nlt q2
    have f1 := F.1 x (by omega) (by rw [e2]; omega)
    rw [e2] at f1
    have set : (l5.toInt < 0 ∨ v2.toInt < l5.toInt) → Ok ((gR 12 M (some 175) 30).bind fun v1 => (aI 20 M v1 l6).bind fun v2 => F_X12_prompts_L153 n (some 175) v2 (l6 + 1) M) (fun q => q.1 = Int32.ofNat c) := by
      intro lt
      refine y_gR H (w := 191) rfl (by decide) (y_aI H (i := 191) (n := 100) rfl (by decide) (by omega) (by omega) (fun v3 e3 => ?_))
      rw [i_cl hl, e2] at e3
      subst e3
      refine ih (x + 1) (Or.inr f1.1.2.1) (fun z => ?_) (i_nx hl (by omega)) (by omega) (by omega) (by omega)
      by_cases sx : s = x
      · rw [sx, e2] at f2
        exact f2
      · have := J2 (by omega)
        omega
    refine Ok_i (fun u => set (Or.inl (by have := i_lt u; omega))) (fun u => ?_)
    have u' := i_nlt u
    refine y_gR H (w := 191) rfl (by decide) (y_aI H (i := 191) (n := 100) rfl (by decide) (by omega) (by omega) (fun v4 e4 => ?_))
    rw [i_cl hl, e2] at e4
    subst e4
    refine Ok_i (fun w => ?_) (fun w => set (Or.inr (i_nle w)))
    have w' := i_le w
    refine ih (x + 1) J1 (fun z => ?_) (i_nx hl (by omega)) (by omega) (by omega) (by omega)
    by_cases sx : s = x
    · rw [sx, e2] at f2
      omega
    · exact J2 (by omega)
theorem E_prompts_L104 {M0 : gM} {a b N : Nat} {σ : Nat → Int32} {l1 l2 l3 : Int32} (X0 : e_V M0 σ) (a1 : l1.toInt = (a : Int)) (b1 : l2.toInt = (b : Int)) (ha : a < hs_m σ) (hb : b < hs_n σ) (k : s_kn σ a b = true) (h3 : l3.toInt = (N : Int)) (hN : N ≤ 40) : ∀ (n i : Nat) {l4 l5 : Int32} {M : gM}, e_p M0 M → pq_J (M.2.1 191) (s_pp σ a b i).1 (s_pp σ a b i).2 (10 * i) True → l4 = s_ga σ a i → l5.toInt = (i : Int) → i ≤ N → N - i < n → Ok (F_X12_prompts_L104 n (some 175) l1 l2 l3 l4 l5 M) (fun q => q.1 = Int32.ofNat (s_pp σ a b N).2) := by
  have V := X0.2.2
  have nn := s_Vn V
  have gr := (V.2.2.2 a (by omega)).1
  have z99 : (99 : Int32).toInt = 99 := rfl
  have zm : (-2 : Int32).toInt = -2 := rfl
  intro n
  induction n with
  | zero => intro i l4 l5 M _ _ _ _ _ hn; omega
  | succ n ih =>
    intro i l4 l5 M Z F h4 h5 hi hn
    have pp := pp_r V ha hb k i
    have X := e_V_fr X0 Z.1 Z.2 (by decide)
    show Ok (F_X12_prompts_b104 (F_X12_prompts_L104 n) (some 175) l1 l2 l3 l4 l5 M) _
    delta F_X12_prompts_b104 F_X12_prompts_b138
    refine Ok_i (fun q => ?_) (fun q => ?_)
    · have := i_le q
      have e0 : i = N := by omega
      subst e0
      exact E_prompts_L153 Z.1 F pp.1.2 (by omega) g_fuel 1 (l6 := 1) (Or.inl (by omega)) (fun z => by omega) rfl (by decide) (by decide) (n_fu (by omega))
    have := i_nle q
    have Li := pL_i V ha hb (i := i) (by omega)
    have Lr := pL_r V ha hb i
    have gi := ga_i (i := i) gr (by omega)
    have gn := ga_i (i := i + 1) gr (by omega)
    refine x_eq (e_gO Z.1) (x_eq (by rw [h4]; exact EA_fades Li.2 X a1 b1 ha hb) (Ok_b (E_promptsYear Li.1 Lr pp.1 (by omega) Z F) (fun M3 z => ?_)))
    have un : s_pp σ a b (i + 1) = ((s_pp σ a b i).1 + 10 * s_pk (s_pL σ a b i) (s_pp σ a b i).1 - s_pL σ a b i, (s_pp σ a b i).2 + s_pk (s_pL σ a b i) (s_pp σ a b i).1) := rfl
    have F3 : pq_J (M3.2.1 191) (s_pp σ a b (i + 1)).1 (s_pp σ a b (i + 1)).2 (10 * (i + 1)) True := by
      rw [un]
      exact z.2
    rw [h4]
    refine Ok_i (fun q => ?_) (fun q => ?_)
    · have := i_le q
      refine ih (i + 1) z.1 F3 (Int32.toInt_inj.mp ?_) (i_nx h5 (by omega)) (by omega) (by omega)
      rw [gi] at this
      rw [gn]
      split at this <;> split <;> omega
    · have q' := i_nle q
      have ad := i_addc (x := s_ga σ a i) (c := (1 : Int32)) (n := 1) rfl (by omega) (by omega)
      refine ih (i + 1) z.1 F3 (Int32.toInt_inj.mp ?_) (i_nx h5 (by omega)) (by omega) (by omega)
      rw [ad, gi, gn]
      rw [gi] at q'
      split at q' <;> split <;> omega
theorem E_prompts_L52 {M0 : gM} {a b N : Nat} {σ : Nat → Int32} {l1 l2 l3 : Int32} (X0 : e_V M0 σ) (a1 : l1.toInt = (a : Int)) (b1 : l2.toInt = (b : Int)) (ha : a < hs_m σ) (hb : b < hs_n σ) (k : s_kn σ a b = true) (h3 : l3.toInt = (N : Int)) (hN : N ≤ 40) : ∀ (n j : Nat) {l4 : Int32} {M : gM}, e_p M0 M → (∀ q, q < j → M.2.1 191 q = if Int32.ofNat q = s_st σ a b then 0 else -1) → l4.toInt = (j : Int) → j ≤ 100 → 100 - j < n → Ok (F_X12_prompts_L52 n (some 175) l1 l2 l3 l4 M) (fun q => q.1 = Int32.ofNat (s_pp σ a b N).2) := by
  have V := X0.2.2
  have nn := s_Vn V
  have z99 : (99 : Int32).toInt = 99 := rfl
  have z0 : (0 : Int32).toInt = 0 := rfl
  have zm : (-1 : Int32).toInt = -1 := rfl
  have st := (s_kn1 V ha (t := b) (by omega) k).2
  have sc := i_clamp (x := s_st σ a b) (by omega)
  have gr := (V.2.2.2 a (by omega)).1
  intro n
  induction n with
  | zero => intro j l4 M _ _ _ _ hn; omega
  | succ n ih =>
    intro j l4 M Z C h4 hj hn
    have X := e_V_fr X0 Z.1 Z.2 (by decide)
    show Ok (F_X12_prompts_b52 (F_X12_prompts_L52 n) (some 175) l1 l2 l3 l4 M) _
    delta F_X12_prompts_b52 F_X12_prompts_b81
    refine Ok_i (fun q => ?_) (fun q => ?_)
    · have := i_lt q
      have i38 := i_mulL (c := (2 : Int32)) (x := l1) (n := 2) rfl (by omega) (by omega)
      have j38 := i_cadd (c := (38 : Int32)) (x := (2 : Int32) * l1) (n := 38) rfl (by omega) (by omega)
      rw [e_sd X (k := 38 + 2 * a) (by omega) (by omega)]
      refine E_prompts_L104 X0 a1 b1 ha hb k h3 hN g_fuel 0 (l5 := 0) Z ?_ ?_ rfl (Nat.zero_le _) (n_fu (by omega))
      · show pq_J (M.2.1 191) (s_st σ a b).toNatClampNeg 0 (10 * 0) True
        refine ⟨fun x hx h0 => ?_, fun _ => ?_⟩
        · rw [C x (by omega)] at h0 ⊢
          by_cases e : Int32.ofNat x = s_st σ a b
          · have ex : (Int32.ofNat x).toInt = (x : Int) := i_ofNat (by omega)
            rw [e] at ex
            rw [if_pos e]
            omega
          · rw [if_neg e] at h0
            omega
        · rw [C _ (by omega), if_pos (i_of (x := s_st σ a b) (by omega) (by omega)).symm]
          omega
      · refine Int32.toInt_inj.mp ?_
        rw [ga_i gr (by omega)]
        split <;> omega
    have := i_nlt q
    have step : ∀ v : Int32, (v = if l4 = s_st σ a b then 0 else -1) → Ok ((sI M (some 191) l4 v).bind fun M1 => F_X12_prompts_L52 n (some 175) l1 l2 l3 (l4 + 1) M1) (fun q => q.1 = Int32.ofNat (s_pp σ a b N).2) := by
      intro v hv
      refine y_sI (S := e_PP) Z.1 (i := 191) (n := 100) rfl (by omega) (by omega) (y_full rfl) (by decide) (fun M4 H4 f4 e4 o4 _ => ?_)
      rw [i_cl h4] at e4 o4
      refine ih (j + 1) ⟨H4, y_tr Z.2 f4⟩ (fun x hx => ?_) (i_nx h4 (by omega)) (by omega) (by omega)
      by_cases xj : x = j
      · rw [xj, e4, hv, ← i_of h4 (by omega)]
      · rw [o4 191 x (Or.inr xj)]
        exact C x (by omega)
    refine y_gR Z.1 (w := 191) rfl (by decide) (x_eq (e_gO Z.1) (x_eq (E_strengthOf X a1 b1 (by omega) (by omega)) ?_))
    refine Ok_i (fun q => ?_) (fun q => ?_)
    · exact step _ (if_pos q).symm
    · exact step _ (if_neg q).symm
/-! asked of both: the class looks, the reference reckons on paper of its own -/
theorem lw9_rq {S L : Nat} {lo hi : Int} {M : gM} {o1 : Option Int32} {o2 : Option (Int32 × gM)} (R : lw9 L M) (z2 : Ok o2 (y_PI S M lo hi)) (hW : Nat.land S y_wb = 0) (hS : Nat.land S (2 ^ 1 + 2 ^ 2 + 2 ^ 41) = 0) (h6 : Nat.land S (2 ^ 21 + 2 ^ 22 + 2 ^ 59 + 2 ^ 60 + 2 ^ 61) = 0) (h9 : Nat.land S (2 ^ 2 + 2 ^ 25 + 2 ^ 42 + 2 ^ 44 + 2 ^ 45 + 2 ^ 52 + 2 ^ 58) = 0) (h50 : S.testBit 50 = false)
    (c : ∀ (e : Nat) (σ : Nat → Int32) (nx sz : Nat) (P I : Nat → Nat → Int32) (rc : Nat) (Rr : Nat → List (Nat × Int32) × List (Nat × Nat × Nat)), w_C M e σ nx sz P I rc Rr → w_E M σ sz P I rc Rr → e_V M σ → rc ≤ 6 → (M.2.1 2 13).toInt < (rc : Int) → M.2.1 175 21 = M.2.1 2 13 → ∃ w : Int32, o1 = some w ∧ Ok o2 (fun q => q.1 = w)) : ∃ w M2, o1 = some w ∧ o2 = some (w, M2) ∧ lw9 L M2 ∧ M2.2.1 0 = M.2.1 0 := by
  obtain ⟨R8, e, σ, nx, sz, P, I, rc, Rr, C, E⟩ := R
  have W0 := R8.1.1.1.1.2
  have rc2 : (M.2.1 175 2).toInt = (rc : Int) := E.2.2.1
  have H0 := R8.1.1.1.1.1.2
  have r6 : rc ≤ 6 := by
    have := (H0.2.1 175 (by decide) 2).2
    have q : (y_tI 175 2).2 = 6 := rfl
    rw [q] at this
    omega
  have f13 := R8.1.2.1.1
  have hf : (M.2.1 2 13).toInt < (rc : Int) := by
    rw [f13, ← rc2]
    exact W0.1.1
  have X : e_V M σ := ⟨H0, E.1.1.1, C.1.1.2.1.1.2.2⟩
  obtain ⟨w, c1, c2⟩ := c e σ nx sz P I rc Rr C E X r6 hf f13.symm
  obtain ⟨⟨w2, M2⟩, e2, y2, q2⟩ := Ok_and z2 c2
  dsimp only at q2
  subst q2
  obtain ⟨R2, s2⟩ := lw8_gr R8 hW hS h6 y2
  have E2 : ∀ j, j < 157 → M2.2.1 185 j = σ j := fun j _ => by rw [y_fa (i := 185) y2.2.2 (by decide) h50 j, E.1.1.1]
  exact ⟨w2, M2, c1, e2, ⟨R2, e, M2.2.1 185, nx, sz, P, I, rc, Rr, w_C_congr (w_C_r C (lw8_len R8.1.1.1) y2.2.2) E2, w_E_r E y2.2.2 h9 rfl⟩, s2⟩
theorem lw9_prompts {L : Nat} {M : gM} {l1 l2 l3 : Int32} (R : lw9 L M) : ∃ w M2, F_X11_prompts (some 2) l1 l2 l3 M = some w ∧ F_X12_prompts (some 175) l1 l2 l3 M = some (w, M2) ∧ lw9 L M2 ∧ M2.2.1 0 = M.2.1 0 := by
  have G := R.1.2
  have k2 := G_k2 G
  refine lw9_rq R (S_X12_prompts R.1.1.1.1.1.1.2) (by decide) (by decide) (by decide) (by decide) (by decide) (fun e σ nx sz P I rc Rr C E X2 h6 hf f1 => ?_)
  have X := C.1.1.2
  have V := X.1.1.2.2
  have nn := s_Vn V
  have z1 : (1 : Int32).toInt = 1 := rfl
  have z40 : (40 : Int32).toInt = 40 := rfl
  have z0 : (0 : Int32).toInt = 0 := rfl
  have c0 := C_isKnownX (l1 := l1) (l2 := l2) k2 C.1.1.1 (G_r5 G) X.1.1
  by_cases k : s_iK σ l1 l2 = true
  · have kk := k
    unfold s_iK at kk
    simp only [Bool.and_eq_true] at kk
    obtain ⟨⟨kH, kT⟩, kn⟩ := kk
    obtain ⟨a, a1, a2, a3, _⟩ := s_iH_n V kH
    obtain ⟨b, b1, b2, b3, _⟩ := s_iT_n V kT
    rw [a3, b3] at kn
    have ix := k_ix a1 b1 (by omega) (by omega)
    by_cases k3 : 1 ≤ l3.toInt ∧ l3.toInt ≤ 40
    · obtain ⟨N, hN⟩ : ∃ N : Nat, l3.toInt = (N : Int) := ⟨l3.toInt.toNat, by omega⟩
      obtain ⟨rl, erl, J⟩ := C_inForce G C.2.2 h6 hf
      have J2 := J.2
      by_cases fc : (M.2.1 2 13).toInt < 0
      · have er : s_ru Rr (M.2.1 2 13) = none := if_pos fc
        rw [er] at J2
        have en : rl = none := by
          cases rl with
          | none => rfl
          | some j => exact False.elim J2
        subst en
        obtain ⟨_, ⟨⟨ks, j1, j2⟩, _⟩, ⟨r0, r1⟩, _⟩ := k_XE X.1.1
        have st := k_Xst X.1.1 a2 (t := b) (by omega)
        have kv := (s_kn1 V a2 (t := b) (by omega) kn).2
        have sc := i_clamp (x := s_st σ a b) (by omega)
        refine ⟨Int32.ofNat (s_pp σ a b N).2, ?_, ?_⟩
        · delta F_X11_prompts F_X11_prompts_b0
          rw [t_gO k2, Option.bind_some, c0, Option.bind_some, if_pos k, if_neg (by decide), if_neg (fun z => by have := i_lt z; omega), if_pos (Int32.le_iff_toInt_le.mpr (by omega)), erl, Option.bind_some, if_pos rfl, t_gR k2 (G_r5 G), Option.bind_some, t_gR ks r1, Option.bind_some, t_aI j2 (by omega) (by omega), Option.bind_some, i_cl ix, st.1]
          exact C_prompts_L54 G C.1.1.1 X.1.1 a1 b1 a2 b2 kn hN (by omega) g_fuel 0 (l5 := 0) (l6 := 0) sc.symm rfl rfl (Nat.zero_le _) (n_fu (by omega))
        · delta F_X12_prompts F_X12_prompts_b0
          rw [e_gO X2.1, Option.bind_some, E_isHeirX X2, Option.bind_some, if_pos kH, if_neg (by decide), E_isThingX X2, Option.bind_some, if_pos kT, if_neg (by decide), E_knowsOf X2 a1 b1 (by omega) (by omega), Option.bind_some, if_pos kn, if_neg (by decide), E_in (a := 1) (b := 40) rfl rfl, Option.bind_some, if_pos k3, if_neg (by decide), e_gI X2.1, Option.bind_some, f1, if_pos (Int32.lt_iff_toInt_lt.mpr (by omega))]
          exact E_prompts_L52 X2 a1 b1 a2 b2 kn hN (by omega) g_fuel 0 (l4 := 0) ⟨X2.1, y_rf0 _ _⟩ (fun x hx => absurd hx (Nat.not_lt_zero x)) rfl (Nat.zero_le _) (n_fu (by omega))
      · have er : s_ru Rr (M.2.1 2 13) = some (Rr (M.2.1 2 13).toNatClampNeg) := if_neg fc
        rw [er] at J2
        have en : ¬ rl = none := fun z => by
          subst z
          exact J2
        refine ⟨-3, ?_, ?_⟩
        · delta F_X11_prompts F_X11_prompts_b0
          rw [t_gO k2, Option.bind_some, c0, Option.bind_some, if_pos k, if_neg (by decide), if_neg (fun z => by have := i_lt z; omega), if_pos (Int32.le_iff_toInt_le.mpr (by omega)), erl, Option.bind_some, if_neg en]
        · delta F_X12_prompts F_X12_prompts_b0
          rw [e_gO X2.1, Option.bind_some, E_isHeirX X2, Option.bind_some, if_pos kH, if_neg (by decide), E_isThingX X2, Option.bind_some, if_pos kT, if_neg (by decide), E_knowsOf X2 a1 b1 (by omega) (by omega), Option.bind_some, if_pos kn, if_neg (by decide), E_in (a := 1) (b := 40) rfl rfl, Option.bind_some, if_pos k3, if_neg (by decide), e_gI X2.1, Option.bind_some, f1, if_neg (fun z => by have := i_lt z; omega)]
          exact Ok_s rfl
    · refine ⟨-1, ?_, ?_⟩
      · delta F_X11_prompts F_X11_prompts_b0 F_X11_prompts_b20
        rw [t_gO k2, Option.bind_some, c0, Option.bind_some, if_pos k, if_neg (by decide)]
        by_cases d : l3 < 1
        · rw [if_pos d]
        · have := i_nlt d
          rw [if_neg d, if_neg (fun z => by have := i_le z; omega)]
      · delta F_X12_prompts F_X12_prompts_b0 F_X12_prompts_b37
        rw [e_gO X2.1, Option.bind_some, E_isHeirX X2, Option.bind_some, if_pos kH, if_neg (by decide), E_isThingX X2, Option.bind_some, if_pos kT, if_neg (by decide), E_knowsOf X2 a1 b1 (by omega) (by omega), Option.bind_some, if_pos kn, if_neg (by decide), E_in (a := 1) (b := 40) rfl rfl, Option.bind_some, if_neg k3, if_pos rfl]
        exact Ok_s rfl
  · refine ⟨-1, ?_, ?_⟩
    · delta F_X11_prompts F_X11_prompts_b0 F_X11_prompts_b20
      rw [t_gO k2, Option.bind_some, c0, Option.bind_some, if_neg k, if_pos rfl]
    · delta F_X12_prompts F_X12_prompts_b0 F_X12_prompts_b37
      rw [e_gO X2.1, Option.bind_some, E_isHeirX X2, Option.bind_some]
      unfold s_iK at k
      by_cases kH : s_iH σ l1 = true
      · rw [if_pos kH, if_neg (by decide), E_isThingX X2, Option.bind_some]
        by_cases kT : s_iT σ l2 = true
        · obtain ⟨a, a1, a2, a3, _⟩ := s_iH_n V kH
          obtain ⟨b, b1, b2, b3, _⟩ := s_iT_n V kT
          rw [if_pos kT, if_neg (by decide), E_knowsOf X2 a1 b1 (by omega) (by omega), Option.bind_some]
          rw [kH, kT, a3, b3] at k
          rw [if_neg (show ¬ s_kn σ a b = true from k), if_pos rfl]
          exact Ok_s rfl
        · rw [if_neg kT, if_pos rfl]
          exact Ok_s rfl
      · rw [if_neg kH, if_pos rfl]
        exact Ok_s rfl
-- 7zau.taught
/-! who taught whom: all WAYS, one by one, as the reference counts them -/
def tw_wr (σ : Nat → Int32) (t h : Nat) : Bool := s_kn σ h t && s_va σ h t != σ (10 + 4 * t)
def tw_ch (σ : Nat → Int32) (t h c : Nat) : Bool := c == 7 || (decide (c < hs_m σ) && ((σ (52 + h)).toBitVec.getLsbD c && s_va σ c t == s_va σ h t))
def tw_ok (σ : Nat → Int32) (t h c : Nat) : Bool := if tw_wr σ t h = true then decide (c ≤ 7) && tw_ch σ t h c else c == 8
def tw_rn (f : Nat → Nat) (h : Nat) : Nat → Nat → Bool
  | 0, _ => false
  | n + 1, o => if h < o then false else if o = h then true else tw_rn f h n (f o)
def tw_up (f : Nat → Nat) (h c : Nat) : Nat → Nat := fun j => if j = h then c else f j
def tw_su (F : Nat → Nat) : Nat → Nat
  | 0 => 0
  | n + 1 => tw_su F n + F n
def tw_sm (σ : Nat → Int32) (t : Nat) (g : (Nat → Nat) → Nat) : Nat → Nat → (Nat → Nat) → Nat
  | 0, _, f => g f
  | k + 1, h, f => tw_su (fun c => if tw_ok σ t h c = true ∧ tw_rn (tw_up f h c) h 7 c = false then tw_sm σ t g k (h + 1) (tw_up f h c) else 0) 9
theorem tw_wr_iff {σ : Nat → Int32} {t h : Nat} : tw_wr σ t h = true ↔ s_kn σ h t = true ∧ ¬ s_va σ h t = σ (10 + 4 * t) := by
  unfold tw_wr
  rw [Bool.and_eq_true, bne_iff_ne]
theorem tw_ch_iff {σ : Nat → Int32} {t h c : Nat} : tw_ch σ t h c = true ↔ c = 7 ∨ (c < hs_m σ ∧ ((σ (52 + h)).toBitVec.getLsbD c = true ∧ s_va σ c t = s_va σ h t)) := by
  unfold tw_ch
  rw [Bool.or_eq_true, beq_iff_eq, Bool.and_eq_true, decide_eq_true_eq, Bool.and_eq_true, beq_iff_eq]
theorem tw_ok_w {σ : Nat → Int32} {t h c : Nat} (w : tw_wr σ t h = true) : tw_ok σ t h c = true ↔ c ≤ 7 ∧ tw_ch σ t h c = true := by
  unfold tw_ok
  rw [if_pos w, Bool.and_eq_true, decide_eq_true_eq]
theorem tw_ok_n {σ : Nat → Int32} {t h c : Nat} (w : ¬ tw_wr σ t h = true) : tw_ok σ t h c = true ↔ c = 8 := by
  unfold tw_ok
  rw [if_neg w, beq_iff_eq]
theorem tw_up_e {f : Nat → Nat} {h c : Nat} : tw_up f h c h = c := if_pos rfl
theorem tw_up_n {f : Nat → Nat} {h c j : Nat} (n : j ≠ h) : tw_up f h c j = f j := if_neg n
theorem tw_su_sk {F : Nat → Nat} {u c : Nat} (h : u ≤ c) (z : ∀ i, u ≤ i → i < c → F i = 0) : tw_su F c = tw_su F u := by
  obtain ⟨d, rfl⟩ : ∃ d, c = u + d := ⟨c - u, by omega⟩
  clear h
  induction d with
  | zero => rfl
  | succ d ih =>
    show tw_su F (u + d) + F (u + d) = _
    rw [z (u + d) (by omega) (by omega), Nat.add_zero]
    exact ih (fun i h1 h2 => z i h1 (by omega))
theorem E_isWrong {M : gM} {σ : Nat → Int32} {l1 l2 : Int32} {h t : Nat} (X : e_V M σ) (h1 : l1.toInt = (h : Int)) (h2 : l2.toInt = (t : Int)) (hh : h < 7) (ht : t < 7) : F_X12_isWrong (some 175) l1 l2 M = some (if tw_wr σ t h = true then 1 else 0) := by
  delta F_X12_isWrong F_X12_isWrong_b0 F_X12_isWrong_b28
  rw [e_gO X.1, Option.bind_some, E_knowsOf X h1 h2 hh ht, Option.bind_some]
  by_cases k : s_kn σ h t = true
  · rw [if_pos k, if_neg (by decide), E_valueOf X h1 h2 hh ht, Option.bind_some, E_thingOf X h2 (w := 0) rfl ht (by decide), Option.bind_some, Nat.add_zero]
    by_cases c : s_va σ h t = σ (10 + 4 * t)
    · rw [if_pos c, if_neg (fun z => (tw_wr_iff.mp z).2 c)]
    · rw [if_neg c, if_pos (tw_wr_iff.mpr ⟨k, c⟩)]
  · rw [if_neg k, if_pos rfl, if_neg (fun z => k (tw_wr_iff.mp z).1)]
theorem E_canHave {M : gM} {σ : Nat → Int32} {l1 l2 l3 : Int32} {h c t : Nat} (X : e_V M σ) (h1 : l1.toInt = (h : Int)) (h2 : l2.toInt = (c : Int)) (h3 : l3.toInt = (t : Int)) (hh : h < 7) (hc : c ≤ 7) (ht : t < 7) : F_X12_canHave (some 175) l1 l2 l3 M = some (if tw_ch σ t h c = true then 1 else 0) := by
  have nn := s_Vn X.2.2
  have z7 : (7 : Int32).toInt = 7 := rfl
  have i52 := i_cadd (c := (52 : Int32)) (x := l1) (n := 52) rfl (by omega) (by omega)
  delta F_X12_canHave F_X12_canHave_b0 F_X12_canHave_b53
  by_cases c7 : c = 7
  · rw [if_pos (Int32.toInt_inj.mp (by omega)), if_pos (tw_ch_iff.mpr (Or.inl c7))]
  · rw [if_neg (fun z => by have := i_eq z; omega), e_sd X (k := 2) rfl (by decide)]
    by_cases cm : c < hs_m σ
    · have ig := is_get (a := σ (52 + h)) h2 (by omega)
      rw [if_neg (fun z => by have := i_le z; omega), e_sd X (k := 52 + h) (by omega) (by omega), R_isOf, Option.bind_some]
      by_cases b : hs_is (σ (52 + h)) l2 = 1
      · have g : (σ (52 + h)).toBitVec.getLsbD c = true := by
          by_cases q : (σ (52 + h)).toBitVec.getLsbD c = true
          · exact q
          · rw [if_neg q, b] at ig
            exact absurd ig (by decide)
        rw [if_pos b, if_neg (by decide), e_gO X.1, Option.bind_some, E_valueOf X h2 h3 (by omega) ht, Option.bind_some, E_valueOf X h1 h3 hh ht, Option.bind_some]
        by_cases v : s_va σ c t = s_va σ h t
        · rw [if_pos v, if_pos (tw_ch_iff.mpr (Or.inr ⟨cm, g, v⟩))]
        · rw [if_neg v, if_neg (fun z => by rcases tw_ch_iff.mp z with y | y; exact c7 y; exact v y.2.2)]
      · rw [if_neg b, if_pos rfl, if_neg (fun z => by
          rcases tw_ch_iff.mp z with y | y
          · exact c7 y
          · rw [if_pos y.2.1] at ig
            exact b ig)]
    · rw [if_pos (Int32.le_iff_toInt_le.mpr (by omega)), if_neg (fun z => by rcases tw_ch_iff.mp z with y | y; exact c7 y; exact cm y.1)]
theorem E_isRound_L10 {M : gM} {f : Nat → Nat} {l1 : Int32} {h : Nat} (H : y_HT M) (h1 : l1.toInt = (h : Int)) (hh : h < 7) (hf : ∀ j, j ≤ h → (M.2.1 189 j).toInt = (f j : Int)) : ∀ (n k o : Nat) {l3 l4 : Int32}, l3.toInt = (o : Int) → l4.toInt = (k : Int) → k ≤ 7 → 7 - k < n → F_X12_isRound_L10 M n (some 175) l1 l1 l3 l4 = some (if tw_rn f h (7 - k) o = true then 1 else 0) := by
  have z7 : (7 : Int32).toInt = 7 := rfl
  intro n
  induction n with
  | zero => intro k o l3 l4 _ _ _ hn; omega
  | succ n ih =>
    intro k o l3 l4 h3 h4 hk hn
    show F_X12_isRound_b10 (F_X12_isRound_L10 M n) M (some 175) l1 l1 l3 l4 = _
    delta F_X12_isRound_b10 F_X12_isRound_b42
    by_cases c : k = 7
    · subst c
      rw [if_pos (Int32.le_iff_toInt_le.mpr (by omega))]
      rfl
    · have un : tw_rn f h (7 - k) o = if h < o then false else if o = h then true else tw_rn f h (7 - (k + 1)) (f o) := by
        rw [show 7 - k = (7 - (k + 1)) + 1 by omega]
        rfl
      rw [if_neg (fun z => by have := i_le z; omega), un]
      by_cases d : h < o
      · rw [if_pos (Int32.lt_iff_toInt_lt.mpr (by omega)), if_pos d, if_neg (by decide)]
      · rw [if_neg (fun z => by have := i_lt z; omega), if_neg d]
        by_cases e : o = h
        · rw [if_pos (Int32.toInt_inj.mp (by omega)), if_pos e, if_pos rfl]
        · rw [if_neg (fun z => by have := i_eq z; omega), if_neg e, e_gR H (w := 189) rfl (by decide), Option.bind_some, e_aI H (t := 20) (i := 189) (n := 7) rfl (by decide) (by omega) (by omega), Option.bind_some, i_cl h3]
          exact ih (k + 1) (f o) (hf o (by omega)) (i_nx h4 (by omega)) (by omega) (by omega)
theorem E_isRound {M : gM} {f : Nat → Nat} {l1 : Int32} {h : Nat} (H : y_HT M) (h1 : l1.toInt = (h : Int)) (hh : h < 7) (hf : ∀ j, j ≤ h → (M.2.1 189 j).toInt = (f j : Int)) : F_X12_isRound (some 175) l1 l1 M = some (if tw_rn f h 7 (f h) = true then 1 else 0) := by
  delta F_X12_isRound F_X12_isRound_b0
  rw [e_gR H (w := 189) rfl (by decide), Option.bind_some, e_aI H (t := 20) (i := 189) (n := 7) rfl (by decide) (by omega) (by omega), Option.bind_some, i_cl h1]
  exact E_isRound_L10 H h1 hh hf g_fuel 0 (f h) (l4 := 0) (hf h (Nat.le_refl h)) rfl (by decide) (n_fu (by omega))
/-! what is counted -/
abbrev e_PG : Nat := 2 ^ 29 + 2 ^ 54 + 2 ^ 55
def e_g (M0 M : gM) : Prop := y_HT M ∧ y_Fr e_PG M0 M
def tw_is (h of : Nat) (f : Nat → Nat) : Nat := if f h = of then 1 else 0
def tw_A (m : Nat) (M : gM) (K : ((Nat → Nat) → Nat) → Nat) : Prop := M.2.1 175 29 = Int32.ofNat (K (fun _ => 1)) ∧ ∀ h of, h < m → of < 8 → M.2.1 190 (8 * h + of) = Int32.ofNat (K (tw_is h of))
theorem tw_A_c {m : Nat} {M : gM} {K K' : ((Nat → Nat) → Nat) → Nat} (A : tw_A m M K) (h : ∀ g, K' g = K g) : tw_A m M K' := ⟨by rw [h]; exact A.1, fun a b ha hb => by rw [h]; exact A.2 a b ha hb⟩
theorem o_suc (n : Nat) : Int32.ofNat n + (1 : Int32) = Int32.ofNat (n + 1) := (Int32.ofNat_add n 1).symm
theorem E_cw_L12 {M0 : gM} {σ : Nat → Int32} {f : Nat → Nat} {K : ((Nat → Nat) → Nat) → Nat} (X0 : e_V M0 σ) (f8 : ∀ j, j < hs_m σ → f j ≤ 8) : ∀ (n k : Nat) {l1 : Int32} {M : gM}, e_g M0 M → (∀ j, j < hs_m σ → (M.2.1 189 j).toInt = (f j : Int)) → M.2.1 175 29 = Int32.ofNat (K (fun _ => 1) + 1) → (∀ h of, h < hs_m σ → of < 8 → M.2.1 190 (8 * h + of) = Int32.ofNat (K (tw_is h of) + if h < k then tw_is h of f else 0)) → l1.toInt = (k : Int) → k ≤ hs_m σ → hs_m σ - k < n → Ok (F_X12_countsWay_L12 n (some 175) l1 M) (fun M' => (e_g M0 M' ∧ ∀ j, j < hs_m σ → (M'.2.1 189 j).toInt = (f j : Int)) ∧ tw_A (hs_m σ) M' (fun g => K g + g f)) := by
  have nn := s_Vn X0.2.2
  have z8 : (8 : Int32).toInt = 8 := rfl
  intro n
  induction n with
  | zero => intro k l1 M _ _ _ _ _ _ hn; omega
  | succ n ih =>
    intro k l1 M Z F A1 A2 hl hk hn
    have X := e_V_fr X0 Z.1 Z.2 (by decide)
    show Ok (F_X12_countsWay_b12 (F_X12_countsWay_L12 n) (some 175) l1 M) _
    delta F_X12_countsWay_b12 F_X12_countsWay_b53
    rw [e_sd X (k := 2) rfl (by decide)]
    by_cases c : hs_m σ ≤ k
    · have ek : k = hs_m σ := by omega
      refine Ok_t (Int32.le_iff_toInt_le.mpr (by omega)) (Ok_s ⟨⟨Z, F⟩, A1, fun h of hh ho => ?_⟩)
      rw [A2 h of hh ho, if_pos (by omega)]
    refine Ok_e (fun z => by have := i_le z; omega) ?_
    have fk := F k (by omega)
    have f8k := f8 k (by omega)
    refine y_gR Z.1 (w := 189) rfl (by decide) (y_aI Z.1 (i := 189) (n := 7) rfl (by decide) (by omega) (by omega) (fun v4 e4 => ?_))
    rw [i_cl hl] at e4
    have v4f : v4.toInt = (f k : Int) := by rw [← e4]; exact fk
    have nx : ∀ (h of : Nat), h < hs_m σ → h ≠ k → (if h < k + 1 then tw_is h of f else 0) = (if h < k then tw_is h of f else 0) := fun h of _ hn => by
      by_cases q : h < k
      · rw [if_pos q, if_pos (by omega)]
      · rw [if_neg q, if_neg (by omega)]
    refine Ok_i (fun q => ?_) (fun q => ?_)
    · have := i_le q
      refine ih (k + 1) Z F A1 (fun h of hh ho => ?_) (i_nx hl (by omega)) (by omega) (by omega)
      rw [A2 h of hh ho]
      by_cases hk2 : h = k
      · subst hk2
        have t0 : tw_is h of f = 0 := if_neg (fun z => by omega)
        rw [if_neg (by omega), if_pos (by omega), t0]
      · rw [nx h of hh hk2]
    · have := i_nle q
      have m8 := i_mulL (c := (8 : Int32)) (x := l1) (n := 8) rfl (by omega) (by omega)
      have ix := i_add (x := (8 : Int32) * l1) (y := v4) (by omega) (by omega)
      have ix' : (((8 : Int32) * l1) + v4).toInt = ((8 * k + f k : Nat) : Int) := by omega
      refine y_gR Z.1 (w := 190) rfl (by decide) (y_gR Z.1 (w := 189) rfl (by decide) (y_aI Z.1 (i := 189) (n := 7) rfl (by decide) (by omega) (by omega) (fun v7 e7 => ?_)))
      rw [i_cl hl, e4] at e7
      subst e7
      refine y_aI Z.1 (i := 190) (n := 56) rfl (by decide) (by omega) (by omega) (fun v8 e8 => ?_)
      rw [i_cl ix'] at e8
      refine y_sI (S := e_PG) Z.1 (i := 190) (n := 56) rfl (by omega) (by omega) (y_full rfl) (by decide) (fun M9 H9 f9 e9 o9 _ => ?_)
      rw [i_cl ix'] at e9 o9
      have a189 : ∀ j, M9.2.1 189 j = M.2.1 189 j := fun j => o9 189 j (Or.inl (by decide))
      refine ih (k + 1) ⟨H9, y_tr Z.2 f9⟩ (fun j hj => by rw [a189 j]; exact F j hj) ((o9 175 29 (Or.inl (by decide))).trans A1) (fun h of hh ho => ?_) (i_nx hl (by omega)) (by omega) (by omega)
      by_cases hk2 : h = k
      · subst hk2
        rw [if_pos (by omega)]
        have A := A2 h of hh ho
        rw [if_neg (by omega), Nat.add_zero] at A
        by_cases fo : f h = of
        · subst fo
          rw [e9, ← e8, A, o_suc, show tw_is h (f h) f = 1 from if_pos rfl]
        · rw [o9 190 _ (Or.inr (by omega)), A, show tw_is h of f = 0 from if_neg fo, Nat.add_zero]
      · rw [o9 190 _ (Or.inr (by omega)), A2 h of hh ho, nx h of hh hk2]
theorem E_countsWay {M0 M : gM} {σ : Nat → Int32} {f : Nat → Nat} {K : ((Nat → Nat) → Nat) → Nat} (X0 : e_V M0 σ) (Z : e_g M0 M) (f8 : ∀ j, j < hs_m σ → f j ≤ 8) (F : ∀ j, j < hs_m σ → (M.2.1 189 j).toInt = (f j : Int)) (A : tw_A (hs_m σ) M K) : Ok (F_X12_countsWay (some 175) M) (fun M' => (e_g M0 M' ∧ ∀ j, j < hs_m σ → (M'.2.1 189 j).toInt = (f j : Int)) ∧ tw_A (hs_m σ) M' (fun g => K g + g f)) := by
  delta F_X12_countsWay F_X12_countsWay_b0
  rw [e_gI Z.1, Option.bind_some, A.1]
  refine y_pI (S := e_PG) (k := 29) Z.1 rfl (i_rng _) (by decide) (fun M2 H2 f2 e2 o2 _ => ?_)
  refine E_cw_L12 X0 f8 g_fuel 0 (l1 := 0) ⟨H2, y_tr Z.2 f2⟩ (fun j hj => by rw [o2 189 j (Or.inl (by decide))]; exact F j hj) (by rw [e2, o_suc]) (fun h of hh ho => ?_) rfl (Nat.zero_le _) (n_fu (by have := s_Vn X0.2.2; omega))
  rw [o2 190 _ (Or.inl (by decide)), A.2 h of hh ho, if_neg (Nat.not_lt_zero h), Nat.add_zero]
/-! one by one -/
def tw_R (M0 : gM) (σ : Nat → Int32) (l1 : Int32) (r : gM) (n : Nat) (h : Nat) (f : Nat → Nat) (K : ((Nat → Nat) → Nat) → Nat) (l2 : Int32) : Prop := ∃ n' M', (n' < n ∧ F_X12_gathersWays_L35 n' (some 175) l1 l2 M' = some r) ∧ (e_g M0 M' ∧ ∀ j, j < h → (M'.2.1 189 j).toInt = (f j : Int)) ∧ tw_A (hs_m σ) M' K
theorem tw_R_c {M0 : gM} {σ : Nat → Int32} {l1 l2 : Int32} {r : gM} {n h : Nat} {f : Nat → Nat} {K K' : ((Nat → Nat) → Nat) → Nat} (R : tw_R M0 σ l1 r n h f K l2) (e : ∀ g, K' g = K g) : tw_R M0 σ l1 r n h f K' l2 := by
  obtain ⟨n', M', a, b, A⟩ := R
  exact ⟨n', M', a, b, tw_A_c A e⟩
/-- one choice is made -/
theorem E_gw_b153 {M0 M : gM} {σ : Nat → Int32} {f : Nat → Nat} {K : ((Nat → Nat) → Nat) → Nat} {l1 l2 l3 : Int32} {h c n : Nat} {r : gM} (X0 : e_V M0 σ) (Z : e_g M0 M) (F : ∀ j, j < h → (M.2.1 189 j).toInt = (f j : Int)) (A : tw_A (hs_m σ) M K) (h2 : l2.toInt = (h : Int)) (h3 : l3.toInt = (c : Int)) (hh : h < hs_m σ) (hc : c ≤ 8) (e : F_X12_gathersWays_b153 (F_X12_gathersWays_L35 n) (some 175) l1 l2 l3 (0 : Int32) M = some r) :
    ∃ M2, ((e_g M0 M2 ∧ ∀ j, j < h + 1 → (M2.2.1 189 j).toInt = (tw_up f h c j : Int)) ∧ tw_A (hs_m σ) M2 K) ∧ ((tw_rn (tw_up f h c) h 7 c = true ∧ F_X12_gathersWays_L35 n (some 175) l1 l2 M2 = some r) ∨ (tw_rn (tw_up f h c) h 7 c = false ∧ (h + 1 < hs_m σ → M2.2.1 189 (h + 1) = -1) ∧ F_X12_gathersWays_L35 n (some 175) l1 (l2 + 1) M2 = some r)) := by
  have nn := s_Vn X0.2.2
  have t189 : ∀ (k : Nat) (v : Int32), -1 ≤ v.toInt ∧ v.toInt ≤ 9 → y_rg (y_tI 189 k) v := fun k v hv => hv
  have H := Z.1
  obtain ⟨M2, eM2⟩ : ∃ M2, M2 = mI M 189 h l3 := ⟨_, rfl⟩
  obtain ⟨H2, f2⟩ := y_set (M' := M2) (S := e_PG) H (i := 189) (k := h) (v := l3) (by decide) (by rw [eM2]; rfl) (by rw [eM2]; rfl) (by rw [eM2]; exact y_mI1) (fun j a hj => by rw [eM2]; exact y_mI2 hj) (by rw [eM2]; rfl) (t189 h l3 (by omega)) (by rw [y_c185 (by decide)]; decide)
  have Z2 : e_g M0 M2 := ⟨H2, y_tr Z.2 f2⟩
  have X2 := e_V_fr X0 Z2.1 Z2.2 (by decide)
  have F2 : ∀ j, j < h + 1 → (M2.2.1 189 j).toInt = (tw_up f h c j : Int) := fun j hj => by
    rw [eM2]
    by_cases ej : j = h
    · subst ej
      rw [y_mI1, tw_up_e]
      exact h3
    · rw [mI_ne (Or.inr ej), tw_up_n ej]
      exact F j (by omega)
  have A2 : tw_A (hs_m σ) M2 K := by
    rw [eM2]
    exact ⟨(mI_ne (Or.inl (by decide))).trans A.1, fun a b ha hb => (mI_ne (Or.inl (by decide))).trans (A.2 a b ha hb)⟩
  have ro := E_isRound (f := tw_up f h c) H2 h2 (by omega) (fun j hj => F2 j (by omega))
  rw [tw_up_e] at ro
  delta F_X12_gathersWays_b153 F_X12_gathersWays_b205 at e
  rw [if_pos rfl, e_gR H (w := 189) rfl (by decide), Option.bind_some, e_sI H (i := 189) (n := 7) rfl (by omega) (by omega), Option.bind_some, i_cl h2, ← eM2, e_gO H2, Option.bind_some, ro, Option.bind_some] at e
  by_cases q : tw_rn (tw_up f h c) h 7 c = true
  · rw [if_pos q, if_neg (by decide)] at e
    exact ⟨M2, ⟨⟨Z2, F2⟩, A2⟩, Or.inl ⟨q, e⟩⟩
  · have s1 := i_addc (x := l2) (c := (1 : Int32)) (n := 1) rfl (by omega) (by omega)
    rw [if_neg q, if_pos rfl, e_sd X2 (k := 2) rfl (by decide)] at e
    by_cases d : h + 1 < hs_m σ
    · rw [if_neg (fun z => by have := i_le z; omega), e_gR H2 (w := 189) rfl (by decide), Option.bind_some, e_sI H2 (i := 189) (n := 7) rfl (by omega) (by omega), Option.bind_some, i_cl (show (l2 + (1 : Int32)).toInt = ((h + 1 : Nat) : Int) by omega)] at e
      obtain ⟨H3, f3⟩ := y_set (M' := mI M2 189 (h + 1) (-1 : Int32)) (S := e_PG) H2 (i := 189) (k := h + 1) (v := (-1 : Int32)) (by decide) rfl rfl y_mI1 (fun j a hj => y_mI2 hj) rfl (t189 (h + 1) (-1) (by decide)) (by rw [y_c185 (by decide)]; decide)
      refine ⟨_, ⟨⟨⟨H3, y_tr Z2.2 f3⟩, fun j hj => ?_⟩, ?_⟩, Or.inr ⟨b_ff q, fun _ => y_mI1, e⟩⟩
      · rw [mI_ne (Or.inr (by omega))]
        exact F2 j hj
      · exact ⟨(mI_ne (Or.inl (by decide))).trans A2.1, fun a b ha hb => (mI_ne (Or.inl (by decide))).trans (A2.2 a b ha hb)⟩
    · rw [if_pos (Int32.le_iff_toInt_le.mpr (by omega))] at e
      exact ⟨M2, ⟨⟨Z2, F2⟩, A2⟩, Or.inr ⟨b_ff q, fun z => absurd z d, e⟩⟩
/-- the next that one can have had it of -/
theorem E_gw_L97 {M : gM} {σ : Nat → Int32} {l1 l2 : Int32} {t h n0 : Nat} {r : gM} (X : e_V M σ) (h1 : l1.toInt = (t : Int)) (ht : t < 7) (h2 : l2.toInt = (h : Int)) (hh : h < hs_m σ) : ∀ (n u : Nat) {l3 : Int32}, l3.toInt = (u : Int) → u ≤ 8 → F_X12_gathersWays_L97 (F_X12_gathersWays_L35 n0) n (some 175) l1 l2 l3 M = some r → ∃ (c : Nat) (l : Int32), (u ≤ c ∧ c ≤ 8) ∧ l.toInt = (c : Int) ∧ (∀ i, u ≤ i → i < c → ¬ tw_ch σ t h i = true) ∧ (c ≤ 7 → tw_ch σ t h c = true) ∧ F_X12_gathersWays_b119 (F_X12_gathersWays_L35 n0) (some 175) l1 l2 l M = some r := by
  have nn := s_Vn X.2.2
  have z7 : (7 : Int32).toInt = 7 := rfl
  intro n
  induction n with
  | zero => intro u l3 _ _ e; exact absurd e (fun z => by cases z)
  | succ n ih =>
    intro u l3 h3 hu e
    replace e : F_X12_gathersWays_b97 (F_X12_gathersWays_L35 n0) (F_X12_gathersWays_L97 (F_X12_gathersWays_L35 n0) n) (some 175) l1 l2 l3 M = some r := e
    delta F_X12_gathersWays_b97 at e
    by_cases c : 7 ≤ u
    · rw [if_pos (Int32.le_iff_toInt_le.mpr (by omega))] at e
      exact ⟨u, l3, ⟨Nat.le_refl u, hu⟩, h3, fun i a b => by omega, fun z => tw_ch_iff.mpr (Or.inl (by omega)), e⟩
    · rw [if_neg (fun z => by have := i_le z; omega), e_gO X.1, Option.bind_some, E_canHave X h2 h3 h1 (by omega) (by omega) ht, Option.bind_some] at e
      by_cases k : tw_ch σ t h u = true
      · rw [if_pos k, if_neg (by decide)] at e
        exact ⟨u, l3, ⟨Nat.le_refl u, hu⟩, h3, fun i a b => by omega, fun _ => k, e⟩
      · rw [if_neg k, if_pos rfl] at e
        obtain ⟨c, l, a1, a2, a3, a4, a5⟩ := ih (u + 1) (i_nx h3 (by omega)) (by omega) e
        refine ⟨c, l, by omega, a2, fun i b1 b2 => ?_, a4, a5⟩
        by_cases iu : i = u
        · rw [iu]
          exact k
        · exact a3 i (by omega) b2
theorem E_b153_1 {n : Nat} {M : gM} {l1 l2 l3 : Int32} : F_X12_gathersWays_b153 (F_X12_gathersWays_L35 n) (some 175) l1 l2 l3 (1 : Int32) M = F_X12_gathersWays_L35 n (some 175) l1 (l2 + (-1 : Int32)) M := by
  delta F_X12_gathersWays_b153
  rw [if_neg (by decide)]
theorem E_b119_w {n t h : Nat} {M : gM} {σ : Nat → Int32} {l1 l2 l3 : Int32} (X : e_V M σ) (h1 : l1.toInt = (t : Int)) (ht : t < 7) (h2 : l2.toInt = (h : Int)) (hh : h < 7) (w : tw_wr σ t h = true) : F_X12_gathersWays_b119 (F_X12_gathersWays_L35 n) (some 175) l1 l2 l3 M = if l3 ≤ (7 : Int32) then F_X12_gathersWays_b153 (F_X12_gathersWays_L35 n) (some 175) l1 l2 l3 (0 : Int32) M else F_X12_gathersWays_L35 n (some 175) l1 (l2 + (-1 : Int32)) M := by
  delta F_X12_gathersWays_b119
  rw [e_gO X.1, Option.bind_some, E_isWrong X h2 h1 hh ht, Option.bind_some, if_pos w, if_neg (by decide), E_b153_1]
theorem E_b119_n {n t h : Nat} {M : gM} {σ : Nat → Int32} {l1 l2 l3 : Int32} (X : e_V M σ) (h1 : l1.toInt = (t : Int)) (ht : t < 7) (h2 : l2.toInt = (h : Int)) (hh : h < 7) (w : ¬ tw_wr σ t h = true) : F_X12_gathersWays_b119 (F_X12_gathersWays_L35 n) (some 175) l1 l2 l3 M = if l3 ≤ (8 : Int32) then F_X12_gathersWays_b153 (F_X12_gathersWays_L35 n) (some 175) l1 l2 l3 (0 : Int32) M else F_X12_gathersWays_L35 n (some 175) l1 (l2 + (-1 : Int32)) M := by
  delta F_X12_gathersWays_b119
  rw [e_gO X.1, Option.bind_some, E_isWrong X h2 h1 hh ht, Option.bind_some, if_neg w, if_pos rfl, E_b153_1]
theorem E_b35_w {n t h : Nat} {M : gM} {σ : Nat → Int32} {l1 l2 : Int32} (X : e_V M σ) (h1 : l1.toInt = (t : Int)) (ht : t < 7) (h2 : l2.toInt = (h : Int)) (hh : h < hs_m σ) (w : tw_wr σ t h = true) : F_X12_gathersWays_L35 (n + 1) (some 175) l1 l2 M = F_X12_gathersWays_L97 (F_X12_gathersWays_L35 n) g_fuel (some 175) l1 l2 (M.2.1 189 h + 1) M := by
  have nn := s_Vn X.2.2
  have z0 : (0 : Int32).toInt = 0 := rfl
  show F_X12_gathersWays_b35 (F_X12_gathersWays_L35 n) (some 175) l1 l2 M = _
  delta F_X12_gathersWays_b35
  rw [if_neg (fun z => by have := i_lt z; omega), e_sd X (k := 2) rfl (by decide), if_neg (fun z => by have := i_eq z; omega), e_gR X.1 (w := 189) rfl (by decide), Option.bind_some, e_aI X.1 (t := 20) (i := 189) (n := 7) rfl (by decide) (by omega) (by omega), Option.bind_some, e_gO X.1, Option.bind_some, E_isWrong X h2 h1 (by omega) ht, Option.bind_some, if_pos w, if_neg (by decide), i_cl h2]
theorem E_b35_n {n t h : Nat} {M : gM} {σ : Nat → Int32} {l1 l2 : Int32} (X : e_V M σ) (h1 : l1.toInt = (t : Int)) (ht : t < 7) (h2 : l2.toInt = (h : Int)) (hh : h < hs_m σ) (w : ¬ tw_wr σ t h = true) : F_X12_gathersWays_L35 (n + 1) (some 175) l1 l2 M = if 0 ≤ M.2.1 189 h then F_X12_gathersWays_b119 (F_X12_gathersWays_L35 n) (some 175) l1 l2 (9 : Int32) M else F_X12_gathersWays_b119 (F_X12_gathersWays_L35 n) (some 175) l1 l2 (8 : Int32) M := by
  have nn := s_Vn X.2.2
  have z0 : (0 : Int32).toInt = 0 := rfl
  show F_X12_gathersWays_b35 (F_X12_gathersWays_L35 n) (some 175) l1 l2 M = _
  delta F_X12_gathersWays_b35 F_X12_gathersWays_b93
  rw [if_neg (fun z => by have := i_lt z; omega), e_sd X (k := 2) rfl (by decide), if_neg (fun z => by have := i_eq z; omega), e_gR X.1 (w := 189) rfl (by decide), Option.bind_some, e_aI X.1 (t := 20) (i := 189) (n := 7) rfl (by decide) (by omega) (by omega), Option.bind_some, e_gO X.1, Option.bind_some, E_isWrong X h2 h1 (by omega) ht, Option.bind_some, if_neg w, if_pos rfl, e_gR X.1 (w := 189) rfl (by decide), Option.bind_some, e_aI X.1 (t := 20) (i := 189) (n := 7) rfl (by decide) (by omega) (by omega), Option.bind_some, i_cl h2]
theorem E_b35_m {n h : Nat} {M : gM} {σ : Nat → Int32} {l1 l2 : Int32} (X : e_V M σ) (h2 : l2.toInt = (h : Int)) (hh : h = hs_m σ) : F_X12_gathersWays_L35 (n + 1) (some 175) l1 l2 M = (F_X12_countsWay (some 175) M).bind fun M10 => F_X12_gathersWays_L35 n (some 175) l1 (l2 + (-1 : Int32)) M10 := by
  have nn := s_Vn X.2.2
  have z0 : (0 : Int32).toInt = 0 := rfl
  show F_X12_gathersWays_b35 (F_X12_gathersWays_L35 n) (some 175) l1 l2 M = _
  delta F_X12_gathersWays_b35
  rw [if_neg (fun z => by have := i_lt z; omega), e_sd X (k := 2) rfl (by decide), if_pos (Int32.toInt_inj.mp (by omega)), e_gO X.1, Option.bind_some]
theorem E_L35_0 {l1 l2 : Int32} {M r : gM} {P : Prop} (e : F_X12_gathersWays_L35 0 (some 175) l1 l2 M = some r) : P := by
  cases e
/-- what a level's choices come to -/
def tw_F (σ : Nat → Int32) (t k h : Nat) (f : Nat → Nat) (g : (Nat → Nat) → Nat) (c : Nat) : Nat := if tw_ok σ t h c = true ∧ tw_rn (tw_up f h c) h 7 c = false then tw_sm σ t g k (h + 1) (tw_up f h c) else 0
theorem tw_F_sk {σ : Nat → Int32} {t k h u c : Nat} {f : Nat → Nat} (g : (Nat → Nat) → Nat) (h1 : u ≤ c) (h2 : ∀ i, u ≤ i → i < c → ¬ tw_ok σ t h i = true) : tw_su (tw_F σ t k h f g) c = tw_su (tw_F σ t k h f g) u := tw_su_sk h1 (fun i a b => if_neg (fun z => h2 i a b z.1))
theorem tw_F_no {σ : Nat → Int32} {t k h c : Nat} {f : Nat → Nat} (g : (Nat → Nat) → Nat) (q : tw_rn (tw_up f h c) h 7 c = true) : tw_su (tw_F σ t k h f g) (c + 1) = tw_su (tw_F σ t k h f g) c := by
  show tw_su (tw_F σ t k h f g) c + tw_F σ t k h f g c = _
  have : tw_F σ t k h f g c = 0 := if_neg (fun z => by rw [q] at z; cases z.2)
  rw [this, Nat.add_zero]
theorem tw_F_ye {σ : Nat → Int32} {t k h c : Nat} {f : Nat → Nat} (g : (Nat → Nat) → Nat) (ok : tw_ok σ t h c = true) (q : tw_rn (tw_up f h c) h 7 c = false) : tw_su (tw_F σ t k h f g) (c + 1) = tw_su (tw_F σ t k h f g) c + tw_sm σ t g k (h + 1) (tw_up f h c) := by
  show tw_su (tw_F σ t k h f g) c + tw_F σ t k h f g c = _
  have : tw_F σ t k h f g c = tw_sm σ t g k (h + 1) (tw_up f h c) := if_pos ⟨ok, q⟩
  rw [this]
/-- all from a level on, entered anew -/
def tw_P (M0 : gM) (σ : Nat → Int32) (l1 : Int32) (t : Nat) (r : gM) (k h : Nat) : Prop := ∀ (f : Nat → Nat) (K : ((Nat → Nat) → Nat) → Nat) (n : Nat) (l2 : Int32) (M : gM), (∀ j, j < h → f j ≤ 8) → e_g M0 M → (∀ j, j < h → (M.2.1 189 j).toInt = (f j : Int)) → (h < hs_m σ → M.2.1 189 h = -1) → tw_A (hs_m σ) M K → l2.toInt = (h : Int) → F_X12_gathersWays_L35 n (some 175) l1 l2 M = some r → tw_R M0 σ l1 r n h f (fun g => K g + tw_sm σ t g k h f) (l2 + (-1 : Int32))
/-- from the u-th choice on -/
def tw_Q (M0 : gM) (σ : Nat → Int32) (l1 : Int32) (t : Nat) (r : gM) (k h : Nat) (f : Nat → Nat) (K : ((Nat → Nat) → Nat) → Nat) (l2 : Int32) (u : Nat) : Prop := ∀ (n : Nat) (M : gM), u ≤ 9 → (¬ tw_wr σ t h = true → u = 0 ∨ u = 9) → (tw_wr σ t h = true → u ≤ 8) → e_g M0 M → (∀ j, j < h → (M.2.1 189 j).toInt = (f j : Int)) → (M.2.1 189 h).toInt = (u : Int) - 1 → tw_A (hs_m σ) M (fun g => K g + tw_su (tw_F σ t k h f g) u) → F_X12_gathersWays_L35 n (some 175) l1 l2 M = some r → tw_R M0 σ l1 r n h f (fun g => K g + tw_su (tw_F σ t k h f g) 9) (l2 + (-1 : Int32))
theorem i_pm {x : Int32} : x + 1 + (-1 : Int32) = x := by
  rw [Int32.add_assoc, show (1 : Int32) + (-1 : Int32) = 0 from by decide, Int32.add_zero]
/-- a choice c is made: on behind it -/
theorem E_gw_made {M0 M : gM} {σ : Nat → Int32} {l1 l2 l : Int32} {t : Nat} {r : gM} {k h n u c : Nat} {f : Nat → Nat} {K : ((Nat → Nat) → Nat) → Nat} (X0 : e_V M0 σ) (P : tw_P M0 σ l1 t r k (h + 1)) (Q : tw_Q M0 σ l1 t r k h f K l2 (c + 1)) (f8 : ∀ j, j < h → f j ≤ 8) (Z : e_g M0 M) (F : ∀ j, j < h → (M.2.1 189 j).toInt = (f j : Int)) (A : tw_A (hs_m σ) M (fun g => K g + tw_su (tw_F σ t k h f g) u)) (h2 : l2.toInt = (h : Int)) (hh : h < hs_m σ) (hl : l.toInt = (c : Int)) (uc : u ≤ c) (c8 : c ≤ 8) (ok : tw_ok σ t h c = true) (nok : ∀ i, u ≤ i → i < c → ¬ tw_ok σ t h i = true) (cn : ¬ tw_wr σ t h = true → c = 8) (cw : tw_wr σ t h = true → c ≤ 7) (e : F_X12_gathersWays_b153 (F_X12_gathersWays_L35 n) (some 175) l1 l2 l (0 : Int32) M = some r) : tw_R M0 σ l1 r (n + 1) h f (fun g => K g + tw_su (tw_F σ t k h f g) 9) (l2 + (-1 : Int32)) := by
  have nn := s_Vn X0.2.2
  obtain ⟨M2, ⟨⟨Z2, F2⟩, A2⟩, e2⟩ := E_gw_b153 X0 Z F A h2 hl hh c8 e
  have sk := fun g => tw_F_sk (σ := σ) (t := t) (k := k) (h := h) (f := f) g uc nok
  have F2' : ∀ j, j < h → (M2.2.1 189 j).toInt = (f j : Int) := fun j hj => by
    have := F2 j (by omega)
    rw [tw_up_n (by omega)] at this
    exact this
  have F2h : (M2.2.1 189 h).toInt = ((c + 1 : Nat) : Int) - 1 := by
    have := F2 h (by omega)
    rw [tw_up_e] at this
    omega
  rcases e2 with ⟨q, e2⟩ | ⟨q, Fm2, e2⟩
  · obtain ⟨n', M', ⟨a1, a2⟩, b⟩ := Q n M2 (by omega) (fun w => Or.inr (by have := cn w; omega)) (fun w => by have := cw w; omega) Z2 F2' F2h (tw_A_c A2 (fun g => by rw [tw_F_no g q, sk g])) e2
    exact ⟨n', M', ⟨by omega, a2⟩, b⟩
  · have s1 := i_addc (x := l2) (c := (1 : Int32)) (n := 1) rfl (by omega) (by omega)
    have f8' : ∀ j, j < h + 1 → tw_up f h c j ≤ 8 := fun j hj => by
      by_cases ej : j = h
      · rw [ej, tw_up_e]
        exact c8
      · rw [tw_up_n ej]
        exact f8 j (by omega)
    obtain ⟨n2, M3, ⟨a1, a2⟩, ⟨Z3, F3⟩, A3⟩ := P (tw_up f h c) (fun g => K g + tw_su (tw_F σ t k h f g) u) n (l2 + 1) M2 f8' Z2 F2 Fm2 A2 (by omega) e2
    rw [i_pm] at a2
    have F3' : ∀ j, j < h → (M3.2.1 189 j).toInt = (f j : Int) := fun j hj => by
      have := F3 j (by omega)
      rw [tw_up_n (by omega)] at this
      exact this
    have F3h : (M3.2.1 189 h).toInt = ((c + 1 : Nat) : Int) - 1 := by
      have := F3 h (by omega)
      rw [tw_up_e] at this
      omega
    obtain ⟨n', M', ⟨b1, b2⟩, b⟩ := Q n2 M3 (by omega) (fun w => Or.inr (by have := cn w; omega)) (fun w => by have := cw w; omega) Z3 F3' F3h (tw_A_c A3 (fun g => by rw [tw_F_ye g ok q, sk g, Nat.add_assoc])) a2
    exact ⟨n', M', ⟨by omega, b2⟩, b⟩
theorem E_gw_Q {M0 : gM} {σ : Nat → Int32} {l1 l2 : Int32} {t : Nat} {r : gM} {k h : Nat} {f : Nat → Nat} {K : ((Nat → Nat) → Nat) → Nat} (X0 : e_V M0 σ) (h1 : l1.toInt = (t : Int)) (ht : t < 7) (P : tw_P M0 σ l1 t r k (h + 1)) (f8 : ∀ j, j < h → f j ≤ 8) (h2 : l2.toInt = (h : Int)) (hh : h < hs_m σ) : ∀ (D u : Nat), 9 - u ≤ D → tw_Q M0 σ l1 t r k h f K l2 u := by
  have nn := s_Vn X0.2.2
  have z0 : (0 : Int32).toInt = 0 := rfl
  have z7 : (7 : Int32).toInt = 7 := rfl
  intro D
  induction D with
  | zero =>
    intro u hD n M u9 un9 uw8 Z F Fu A e
    have hu : u = 9 := by omega
    have w : ¬ tw_wr σ t h = true := fun w => by have := uw8 w; omega
    have X := e_V_fr X0 Z.1 Z.2 (by decide)
    cases n with
    | zero => exact E_L35_0 e
    | succ n =>
      rw [E_b35_n X h1 ht h2 hh w, if_pos (Int32.le_iff_toInt_le.mpr (by omega)), E_b119_n X h1 ht h2 (by omega) w, if_neg (by decide)] at e
      subst hu
      exact ⟨n, M, ⟨Nat.lt_succ_self n, e⟩, ⟨Z, F⟩, A⟩
  | succ D ihD =>
    intro u hD n M u9 un9 uw8 Z F Fu A e
    by_cases hu9 : 9 - u ≤ D
    · exact ihD u hu9 n M u9 un9 uw8 Z F Fu A e
    have X := e_V_fr X0 Z.1 Z.2 (by decide)
    cases n with
    | zero => exact E_L35_0 e
    | succ n =>
      by_cases w : tw_wr σ t h = true
      · have s1 := i_addc (x := M.2.1 189 h) (c := (1 : Int32)) (n := 1) rfl (by omega) (by omega)
        rw [E_b35_w X h1 ht h2 hh w] at e
        obtain ⟨c, l, ⟨c1, c2⟩, hl, nch, ch, e⟩ := E_gw_L97 X h1 ht h2 hh g_fuel u (l3 := M.2.1 189 h + 1) (by omega) (uw8 w) e
        rw [E_b119_w X h1 ht h2 (by omega) w] at e
        have nok : ∀ i, u ≤ i → i < c → ¬ tw_ok σ t h i = true := fun i a b z => nch i a b ((tw_ok_w w).mp z).2
        by_cases c7 : c ≤ 7
        · rw [if_pos (Int32.le_iff_toInt_le.mpr (by omega))] at e
          exact E_gw_made X0 P (ihD (c + 1) (by omega)) f8 Z F A h2 hh hl c1 c2 ((tw_ok_w w).mpr ⟨c7, ch c7⟩) nok (fun z => absurd w z) (fun _ => c7) e
        · rw [if_neg (fun z => by have := i_le z; omega)] at e
          refine tw_R_c ⟨n, M, ⟨Nat.lt_succ_self n, e⟩, ⟨Z, F⟩, A⟩ (fun g => ?_)
          rw [tw_F_sk g (u := u) (c := 9) (by omega) (fun i a b z => by
            by_cases ic : i < c
            · exact nok i a ic z
            · have := ((tw_ok_w w).mp z).1
              omega)]
      · have u0 : u = 0 := by have := un9 w; omega
        subst u0
        rw [E_b35_n X h1 ht h2 hh w, if_neg (fun z => by have := i_le z; omega), E_b119_n X h1 ht h2 (by omega) w, if_pos (by decide)] at e
        exact E_gw_made X0 P (ihD 9 (by omega)) f8 Z F A h2 hh (c := 8) (l := 8) rfl (by omega) (by omega) ((tw_ok_n w).mpr rfl) (fun i a b z => by have := (tw_ok_n w).mp z; omega) (fun _ => rfl) (fun z => absurd z w) e
theorem E_gw {M0 : gM} {σ : Nat → Int32} {l1 : Int32} {t : Nat} {r : gM} (X0 : e_V M0 σ) (h1 : l1.toInt = (t : Int)) (ht : t < 7) : ∀ (k h : Nat), h + k = hs_m σ → tw_P M0 σ l1 t r k h := by
  have nn := s_Vn X0.2.2
  intro k
  induction k with
  | zero =>
    intro h hk f K n l2 M f8 Z F _ A h2 e
    have X := e_V_fr X0 Z.1 Z.2 (by decide)
    cases n with
    | zero => exact E_L35_0 e
    | succ n =>
      obtain ⟨M', em, z, A'⟩ := E_countsWay (K := K) X0 Z (fun j hj => f8 j (by omega)) (fun j hj => F j (by omega)) A
      rw [E_b35_m X h2 (by omega), em, Option.bind_some] at e
      exact ⟨n, M', ⟨Nat.lt_succ_self n, e⟩, ⟨z.1, fun j hj => z.2 j (by omega)⟩, A'⟩
  | succ k ihk =>
    intro h hk f K n l2 M f8 Z F Fm A h2 e
    have hh : h < hs_m σ := by omega
    have R := E_gw_Q (K := K) X0 h1 ht (ihk (h + 1) (by omega)) f8 h2 hh 9 0 (by decide) n M (by decide) (fun _ => Or.inl rfl) (fun _ => by decide) Z F (by rw [Fm hh]; rfl) (tw_A_c A (fun g => rfl)) e
    exact tw_R_c R (fun g => rfl)
theorem E_gathersWays_L2 {M0 : gM} {σ : Nat → Int32} {l1 : Int32} {t : Nat} {r : gM} (X0 : e_V M0 σ) (h1 : l1.toInt = (t : Int)) (ht : t < 7) : ∀ (n k : Nat) {l2 : Int32} {M : gM}, e_g M0 M → (∀ j, j < k → M.2.1 190 j = 0) → l2.toInt = (k : Int) → k ≤ 56 → F_X12_gathersWays_L2 n (some 175) l1 l2 M = some r → e_g M0 r ∧ tw_A (hs_m σ) r (fun g => tw_sm σ t g (hs_m σ) 0 (fun _ => 0)) := by
  have nn := s_Vn X0.2.2
  have z56 : (56 : Int32).toInt = 56 := rfl
  have z0 : (0 : Int32).toInt = 0 := rfl
  intro n
  induction n with
  | zero => intro k l2 M _ _ _ _ e; exact absurd e (fun z => by cases z)
  | succ n ih =>
    intro k l2 M Z C hl hk e
    replace e : F_X12_gathersWays_b2 (F_X12_gathersWays_L2 n) (some 175) l1 l2 M = some r := e
    delta F_X12_gathersWays_b2 at e
    by_cases c : k = 56
    · rw [if_pos (Int32.le_iff_toInt_le.mpr (by omega)), e_pI Z.1, Option.bind_some] at e
      obtain ⟨H1, f1⟩ := y_set (M' := mI M 175 29 (0 : Int32)) (S := e_PG) Z.1 (i := 175) (k := 29) (v := (0 : Int32)) (by decide) rfl rfl y_mI1 (fun j a hj => y_mI2 hj) rfl (y_full rfl) (by decide)
      rw [e_gR H1 (w := 189) rfl (by decide), Option.bind_some, e_sI H1 (i := 189) (n := 7) rfl (by decide) (by decide), Option.bind_some] at e
      obtain ⟨H2, f2⟩ := y_set (M' := mI (mI M 175 29 (0 : Int32)) 189 0 (-1 : Int32)) (S := e_PG) H1 (i := 189) (k := 0) (v := (-1 : Int32)) (by decide) rfl rfl y_mI1 (fun j a hj => y_mI2 hj) rfl (show -1 ≤ (-1 : Int32).toInt ∧ (-1 : Int32).toInt ≤ 9 from by decide) (by decide)
      obtain ⟨n', M', ⟨a1, a2⟩, ⟨Z', _⟩, A'⟩ := E_gw X0 h1 ht (hs_m σ) 0 (by omega) (fun _ => 0) (fun _ => 0) _ 0 _ (fun j hj => absurd hj (Nat.not_lt_zero j)) ⟨H2, y_tr Z.2 (y_tr f1 f2)⟩ (fun j hj => absurd hj (Nat.not_lt_zero j)) (fun _ => y_mI1) ⟨(mI_ne (Or.inl (by decide))).trans y_mI1, fun h of hh ho => (mI_ne (Or.inl (by decide))).trans ((mI_ne (Or.inl (by decide))).trans (C _ (by omega)))⟩ rfl e
      cases n' with
      | zero => exact absurd a2 (fun z => by cases z)
      | succ n' =>
        replace a2 : F_X12_gathersWays_b35 (F_X12_gathersWays_L35 n') (some 175) l1 ((0 : Int32) + (-1 : Int32)) M' = some r := a2
        delta F_X12_gathersWays_b35 at a2
        rw [if_pos (by decide)] at a2
        obtain rfl := Option.some.inj a2
        exact ⟨Z', tw_A_c A' (fun g => (Nat.zero_add _).symm)⟩
    · rw [if_neg (fun z => by have := i_le z; omega), e_gR Z.1 (w := 190) rfl (by decide), Option.bind_some, e_sI Z.1 (i := 190) (n := 56) rfl (by omega) (by omega), Option.bind_some, i_cl hl] at e
      obtain ⟨H1, f1⟩ := y_set (M' := mI M 190 k (0 : Int32)) (S := e_PG) Z.1 (i := 190) (k := k) (v := (0 : Int32)) (by decide) rfl rfl y_mI1 (fun j a hj => y_mI2 hj) rfl (y_full rfl) (by rw [y_c185 (by decide)]; decide)
      refine ih (k + 1) ⟨H1, y_tr Z.2 f1⟩ (fun j hj => ?_) (i_nx hl (by omega)) (by omega) e
      by_cases jk : j = k
      · rw [jk, y_mI1]
      · rw [mI_ne (Or.inr jk)]
        exact C j (by omega)
theorem E_gathersWays {M : gM} {σ : Nat → Int32} {l1 : Int32} {t : Nat} (X : e_V M σ) (h1 : l1.toInt = (t : Int)) (ht : t < hs_n σ) : Ok (F_X12_gathersWays (some 175) l1 M) (fun M' => e_g M M' ∧ tw_A (hs_m σ) M' (fun g => tw_sm σ t g (hs_m σ) 0 (fun _ => 0))) := by
  have nn := s_Vn X.2.2
  obtain ⟨M', e, _⟩ := S_X12_gathersWays (l1 := l1) X.1 (by omega)
  refine ⟨M', e, ?_⟩
  delta F_X12_gathersWays F_X12_gathersWays_b0 at e
  exact E_gathersWays_L2 X h1 (by omega) g_fuel 0 (l2 := 0) ⟨X.1, y_rf0 _ _⟩ (fun j hj => absurd hj (Nat.not_lt_zero j)) rfl (Nat.zero_le _) e
-- 7zav.taught2
/-! of the WAYS: how many, and of whom -/
theorem tw_su_le {F G : Nat → Nat} : ∀ n, (∀ i, i < n → F i ≤ G i) → tw_su F n ≤ tw_su G n := by
  intro n
  induction n with
  | zero => intro _; exact Nat.le_refl _
  | succ n ih =>
    intro h
    exact Nat.add_le_add (ih (fun i hi => h i (by omega))) (h n (by omega))
theorem tw_su_al {F G H : Nat → Nat} : ∀ n, (∀ i, i < n → F i + G i ≤ H i) → tw_su F n + tw_su G n ≤ tw_su H n := by
  intro n
  induction n with
  | zero => intro _; exact Nat.le_refl _
  | succ n ih =>
    intro h
    have a := ih (fun i hi => h i (by omega))
    have b := h n (by omega)
    show (tw_su F n + F n) + (tw_su G n + G n) ≤ tw_su H n + H n
    omega
theorem tw_su_eq {F G : Nat → Nat} : ∀ n, (∀ i, i < n → F i = G i) → tw_su F n = tw_su G n := by
  intro n
  induction n with
  | zero => intro _; rfl
  | succ n ih =>
    intro h
    have a := ih (fun i hi => h i (by omega))
    have b := h n (by omega)
    show tw_su F n + F n = tw_su G n + G n
    rw [a, b]
theorem tw_su_ge {F : Nat → Nat} {i : Nat} : ∀ n, i < n → F i ≤ tw_su F n := by
  intro n
  induction n with
  | zero => intro h; omega
  | succ n ih =>
    intro h
    show F i ≤ tw_su F n + F n
    by_cases e : i = n
    · subst e
      omega
    · have := ih (by omega)
      omega
theorem tw_su_k {F : Nat → Nat} {B : Nat} : ∀ n, (∀ i, i < n → F i ≤ B) → tw_su F n ≤ n * B := by
  intro n
  induction n with
  | zero => intro _; exact Nat.zero_le _
  | succ n ih =>
    intro h
    have a := ih (fun i hi => h i (by omega))
    have b := h n (by omega)
    show tw_su F n + F n ≤ (n + 1) * B
    rw [Nat.succ_mul]
    omega
theorem tw_rn_c {f f' : Nat → Nat} {h : Nat} (e : ∀ j, j ≤ h → f' j = f j) : ∀ (n o : Nat), tw_rn f' h n o = tw_rn f h n o := by
  intro n
  induction n with
  | zero => intro o; rfl
  | succ n ih =>
    intro o
    show (if h < o then false else if o = h then true else tw_rn f' h n (f' o)) = if h < o then false else if o = h then true else tw_rn f h n (f o)
    by_cases c : h < o
    · rw [if_pos c, if_pos c]
    · rw [if_neg c, if_neg c, e o (by omega), ih (f o)]
theorem tw_rn_lt {f : Nat → Nat} {h n o : Nat} (c : h < o) : tw_rn f h n o = false := by
  cases n with
  | zero => rfl
  | succ n => exact if_pos c
theorem tw_ok8 {σ : Nat → Int32} {t h c : Nat} (k : tw_ok σ t h c = true) : c ≤ 8 := by
  by_cases w : tw_wr σ t h = true
  · have := ((tw_ok_w w).mp k).1
    omega
  · have := (tw_ok_n w).mp k
    omega
theorem tw_sm_al {σ : Nat → Int32} {t : Nat} {g1 g2 g3 : (Nat → Nat) → Nat} (hg : ∀ f, g1 f + g2 f ≤ g3 f) : ∀ (k h : Nat) (f : Nat → Nat), tw_sm σ t g1 k h f + tw_sm σ t g2 k h f ≤ tw_sm σ t g3 k h f := by
  intro k
  induction k with
  | zero => intro h f; exact hg f
  | succ k ih =>
    intro h f
    refine tw_su_al 9 (fun c _ => ?_)
    by_cases q : tw_ok σ t h c = true ∧ tw_rn (tw_up f h c) h 7 c = false
    · rw [if_pos q, if_pos q, if_pos q]
      exact ih _ _
    · rw [if_neg q, if_neg q, if_neg q]
      exact Nat.le_refl _
theorem tw_sm_ge {σ : Nat → Int32} {t : Nat} {g : (Nat → Nat) → Nat} {a : Nat → Nat} {m : Nat} (hg : ∀ f', (∀ j, j < m → f' j = a j) → g f' = g a) (ha : ∀ j, j < m → tw_ok σ t j (a j) = true ∧ tw_rn a j 7 (a j) = false) : ∀ (k h : Nat) (f : Nat → Nat), h + k = m → (∀ j, j < h → f j = a j) → g a ≤ tw_sm σ t g k h f := by
  intro k
  induction k with
  | zero =>
    intro h f hk e
    show g a ≤ g f
    rw [hg f (fun j hj => e j (by omega))]
    exact Nat.le_refl _
  | succ k ih =>
    intro h f hk e
    have A := ha h (by omega)
    have e' : ∀ j, j < h + 1 → tw_up f h (a h) j = a j := fun j hj => by
      by_cases ej : j = h
      · rw [ej, tw_up_e]
      · rw [tw_up_n ej]
        exact e j (by omega)
    refine Nat.le_trans ?_ (tw_su_ge (i := a h) 9 (by have := tw_ok8 A.1; omega))
    rw [if_pos ⟨A.1, by rw [tw_rn_c (fun j hj => e' j (by omega))]; exact A.2⟩]
    exact ih (h + 1) _ (by omega) e'
theorem tw_sm_7 {σ : Nat → Int32} {t h0 m : Nat} (h0m : h0 < m) (o7 : ∀ c, tw_ok σ t h0 c = true → c = 7) : ∀ (k h : Nat) (f : Nat → Nat), h + k = m → (h0 < h → f h0 = 7) → tw_sm σ t (tw_is h0 7) k h f = tw_sm σ t (fun _ => 1) k h f := by
  intro k
  induction k with
  | zero =>
    intro h f hk e
    exact if_pos (e (by omega))
  | succ k ih =>
    intro h f hk e
    refine tw_su_eq 9 (fun c _ => ?_)
    by_cases q : tw_ok σ t h c = true ∧ tw_rn (tw_up f h c) h 7 c = false
    · rw [if_pos q, if_pos q]
      refine ih (h + 1) _ (by omega) (fun hj => ?_)
      by_cases eh : h0 = h
      · subst eh
        rw [tw_up_e]
        exact o7 c q.1
      · rw [tw_up_n eh]
        exact e (by omega)
    · rw [if_neg q, if_neg q]
theorem tw_sm_le {σ : Nat → Int32} {t : Nat} : ∀ (k h : Nat) (f : Nat → Nat), tw_sm σ t (fun _ => 1) k h f ≤ 9 ^ k := by
  intro k
  induction k with
  | zero => intro h f; exact Nat.le_refl _
  | succ k ih =>
    intro h f
    have := tw_su_k (F := fun c => if tw_ok σ t h c = true ∧ tw_rn (tw_up f h c) h 7 c = false then tw_sm σ t (fun _ => 1) k (h + 1) (tw_up f h c) else 0) (B := 9 ^ k) 9 (fun c _ => by
      split
      · exact ih _ _
      · exact Nat.zero_le _)
    rw [Nat.pow_succ, Nat.mul_comm]
    exact this
/-- all made it up -/
def tw_a0 (σ : Nat → Int32) (t j : Nat) : Nat := if tw_wr σ t j = true then 7 else 8
theorem tw_a0_r {σ : Nat → Int32} {t j : Nat} : 7 ≤ tw_a0 σ t j := by
  unfold tw_a0
  split <;> omega
theorem tw_a0_ok {σ : Nat → Int32} {t j : Nat} : tw_ok σ t j (tw_a0 σ t j) = true := by
  unfold tw_a0
  by_cases w : tw_wr σ t j = true
  · rw [if_pos w]
    exact (tw_ok_w w).mpr ⟨by decide, tw_ch_iff.mpr (Or.inl rfl)⟩
  · rw [if_neg w]
    exact (tw_ok_n w).mpr rfl
/-- who errs has it of a sharer or not -/
def tw_sh (σ : Nat → Int32) (t h : Nat) : Prop := ∃ c, c < hs_m σ ∧ ((σ (52 + h)).toBitVec.getLsbD c = true ∧ s_va σ c t = s_va σ h t)
theorem tw_said {σ : Nat → Int32} {t h : Nat} (V : s_V σ) (Q : s_Qc σ) (hh : h < hs_m σ) (w : tw_wr σ t h = true) :
    (tw_sm σ t (fun _ => 1) (hs_m σ) 0 (fun _ => 0) ≤ 2000000000 ∧ ∀ of, of < 8 → tw_sm σ t (tw_is h of) (hs_m σ) 0 (fun _ => 0) ≤ 2000000000) ∧ (∀ of, of < 7 → tw_sm σ t (tw_is h of) (hs_m σ) 0 (fun _ => 0) ≠ tw_sm σ t (fun _ => 1) (hs_m σ) 0 (fun _ => 0)) ∧ (tw_sm σ t (tw_is h 7) (hs_m σ) 0 (fun _ => 0) = tw_sm σ t (fun _ => 1) (hs_m σ) 0 (fun _ => 0) ↔ ¬ tw_sh σ t h) := by
  have nn := s_Vn V
  have le := tw_sm_le (σ := σ) (t := t) (hs_m σ) 0 (fun _ => 0)
  have p9 : 9 ^ hs_m σ ≤ 9 ^ 7 := Nat.pow_le_pow_right (by decide) nn.2.2
  have q9 : 9 ^ 7 = 4782969 := rfl
  have cg : ∀ (of : Nat) (a f' : Nat → Nat), (∀ j, j < hs_m σ → f' j = a j) → tw_is h of f' = tw_is h of a := fun of a f' e => by
    unfold tw_is
    rw [e h hh]
  have al : ∀ of, of ≠ 7 → tw_sm σ t (tw_is h of) (hs_m σ) 0 (fun _ => 0) + tw_sm σ t (tw_is h 7) (hs_m σ) 0 (fun _ => 0) ≤ tw_sm σ t (fun _ => 1) (hs_m σ) 0 (fun _ => 0) := fun of o7 => tw_sm_al (fun f => by
    unfold tw_is
    by_cases e : f h = of
    · rw [if_pos e, if_neg (by omega)]
      exact Nat.le_refl _
    · rw [if_neg e]
      split <;> omega) _ _ _
  have b7 : 1 ≤ tw_sm σ t (tw_is h 7) (hs_m σ) 0 (fun _ => 0) := by
    have := tw_sm_ge (σ := σ) (t := t) (g := tw_is h 7) (a := tw_a0 σ t) (m := hs_m σ) (cg 7 _) (fun j hj => ⟨tw_a0_ok, tw_rn_lt (by have := tw_a0_r (σ := σ) (t := t) (j := j); omega)⟩) (hs_m σ) 0 (fun _ => 0) (by omega) (fun j hj => absurd hj (Nat.not_lt_zero j))
    have e : tw_is h 7 (tw_a0 σ t) = 1 := if_pos (if_pos w)
    rw [e] at this
    exact this
  have mono : ∀ of, tw_sm σ t (tw_is h of) (hs_m σ) 0 (fun _ => 0) ≤ tw_sm σ t (fun _ => 1) (hs_m σ) 0 (fun _ => 0) := fun of => by
    have := tw_sm_al (σ := σ) (t := t) (g1 := tw_is h of) (g2 := fun _ => 0) (g3 := fun _ => 1) (fun f => by unfold tw_is; split <;> omega) (hs_m σ) 0 (fun _ => 0)
    omega
  refine ⟨⟨by omega, fun of _ => by have := mono of; omega⟩, fun of o7 => by have := al of (by omega); omega, fun e7 hs => ?_, fun ns => ?_⟩
  · obtain ⟨c0, c1, c2, c3⟩ := hs
    have ne : c0 ≠ h := (Q.2 h c0 hh c2).1.2
    have ge := tw_sm_ge (σ := σ) (t := t) (g := tw_is h c0) (a := fun j => if j = h then c0 else tw_a0 σ t j) (m := hs_m σ) (cg c0 _) (fun j hj => by
      by_cases ej : j = h
      · subst ej
        rw [if_pos rfl]
        refine ⟨(tw_ok_w w).mpr ⟨by omega, tw_ch_iff.mpr (Or.inr ⟨c1, c2, c3⟩)⟩, ?_⟩
        by_cases lt : j < c0
        · exact tw_rn_lt lt
        · show (if j < c0 then false else if c0 = j then true else tw_rn (fun i => if i = j then c0 else tw_a0 σ t i) j 6 (if c0 = j then c0 else tw_a0 σ t c0)) = false
          rw [if_neg lt, if_neg ne, if_neg ne]
          exact tw_rn_lt (by have := tw_a0_r (σ := σ) (t := t) (j := c0); omega)
      · rw [if_neg ej]
        exact ⟨tw_a0_ok, tw_rn_lt (by have := tw_a0_r (σ := σ) (t := t) (j := j); omega)⟩) (hs_m σ) 0 (fun _ => 0) (by omega) (fun j hj => absurd hj (Nat.not_lt_zero j))
    have e : tw_is h c0 (fun j => if j = h then c0 else tw_a0 σ t j) = 1 := if_pos (if_pos rfl)
    rw [e] at ge
    have := al c0 (by omega)
    omega
  · refine tw_sm_7 hh (fun c k => ?_) (hs_m σ) 0 (fun _ => 0) (by omega) (fun z => absurd z (Nat.not_lt_zero h))
    rcases tw_ch_iff.mp ((tw_ok_w w).mp k).2 with y | y
    · exact y
    · exact absurd ⟨c, y⟩ ns
/-! of the class -/
theorem C_sharersX {M : gM} {e a b : Nat} {σ : Nat → Int32} {l1 l2 : Int32} (G : k_G M) (r11 : M.2.2.2 2 11 = some e) (X : k_X M 9 e σ) (a1 : l1.toInt = (a : Int)) (b1 : l2.toInt = (b : Int)) (ha : a < hs_m σ) (hb : b < hs_n σ) : F_X11_sharers (some 2) l1 l2 M = some (if tw_wr σ b a = true then (σ (52 + a) &&& s_bs (fun h => s_kn σ h b && s_va σ h b == s_va σ a b) (hs_m σ)) else 0) := by
  have nn := s_Vn X.2.2
  have k2 := G_k2 G
  obtain ⟨⟨ke, _⟩, ⟨⟨ks, j1, j2⟩, _⟩, ⟨r0, r1⟩, _⟩ := k_XE X
  have R4 : g_k M (e + 5) = (20, 7) ∧ M.2.2.2 e 4 = some (e + 5) := k_XR (i := 4) X (by decide)
  have E4 := X.2.1.1.2.2.2 a (by omega)
  have ix := k_ix a1 b1 (by omega) (by omega)
  have st := k_Xst X ha (t := b) (by omega)
  have er : F_X8_errs (some 9) (some e) l1 l2 M = some (if tw_wr σ b a = true then 1 else 0) := C_errs X a1 b1 ha (by omega)
  delta F_X11_sharers F_X11_sharers_b0
  simp only [t_gR k2 (G_r5 G), t_gR k2 r11, t_gO ks, Option.bind_some, er]
  by_cases w : tw_wr σ b a = true
  · have kn := (tw_wr_iff.mp w).1
    have ai : aI 20 M (some (e + 5)) l1 = some (σ (52 + a)) := by rw [t_aI R4.1 (by omega) (by omega), i_cl a1, E4.2]
    have aj : aI 20 M (some (9 + 1)) (l1 * (7 : Int32) + l2) = some (s_va σ a b) := by rw [t_aI j1 (by omega) (by omega), i_cl ix, st.2 kn]
    rw [if_pos w, if_neg (by decide), if_pos w]
    simp only [t_gR ke R4.2, t_gR ks r0, Option.bind_some, ai, aj, C_knowersAs X b1 (show b < 7 by omega)]
  · rw [if_neg w, if_pos rfl, if_neg w]
theorem tw_sh_0 {σ : Nat → Int32} {a b : Nat} (V : s_V σ) (kn : s_kn σ a b = true) : (σ (52 + a) &&& s_bs (fun h => s_kn σ h b && s_va σ h b == s_va σ a b) (hs_m σ)) = 0 ↔ ¬ tw_sh σ b a := by
  have nn := s_Vn V
  have z : ∀ i, (0 : Int32).toBitVec.getLsbD i = false := fun i => by
    show (0#32).getLsbD i = false
    simp
  have kc : ∀ c, s_va σ c b = s_va σ a b → s_kn σ c b = true := fun c h => by
    unfold s_kn at kn ⊢
    rw [h]
    exact kn
  constructor
  · rintro h ⟨c, c1, c2, c3⟩
    have e := and_get (a := σ (52 + a)) (b := s_bs (fun h => s_kn σ h b && s_va σ h b == s_va σ a b) (hs_m σ)) (i := c)
    rw [h, z c, c2, bs_get (by omega), decide_eq_true c1, kc c c3, beq_iff_eq.mpr c3] at e
    exact absurd e (by decide)
  · intro ns
    refine Int32.toBitVec_inj.mp (BitVec.eq_of_getLsbD_eq (fun i _ => ?_))
    rw [z i, and_get, bs_get (by omega)]
    by_cases c1 : i < hs_m σ
    · by_cases c2 : (σ (52 + a)).toBitVec.getLsbD i = true
      · by_cases c3 : s_va σ i b = s_va σ a b
        · exact absurd ⟨i, c1, c2, c3⟩ ns
        · rw [beq_false_of_ne c3, Bool.and_false, Bool.and_false, Bool.and_false]
      · rw [b_ff c2, Bool.false_and]
    · rw [decide_eq_false c1, Bool.false_and, Bool.and_false]
/-! of both -/
theorem E_taught_L38 {M : gM} {m a : Nat} {K : ((Nat → Nat) → Nat) → Nat} {l1 : Int32} (H : y_HT M) (A : tw_A m M K) (a1 : l1.toInt = (a : Int)) (ha : a < m) (hm : m ≤ 7) (lT : K (fun _ => 1) ≤ 2000000000) (lB : ∀ of, of < 8 → K (tw_is a of) ≤ 2000000000) (n7 : ∀ of, of < 7 → K (tw_is a of) ≠ K (fun _ => 1)) : ∀ (n of : Nat) {l3 : Int32}, l3.toInt = (of : Int) → of ≤ 7 → 8 - of < n → Ok (F_X12_taught_L38 n (some 175) l1 l3 M) (fun q => q.1 = if K (tw_is a 7) = K (fun _ => 1) then -1 else -2) := by
  have z7 : (7 : Int32).toInt = 7 := rfl
  have eT : (Int32.ofNat (K (fun _ => 1))).toInt = _ := i_ofNat lT
  intro n
  induction n with
  | zero => intro of l3 _ _ hn; omega
  | succ n ih =>
    intro of l3 h3 ho hn
    have m8 := i_mulL (c := (8 : Int32)) (x := l1) (n := 8) rfl (by omega) (by omega)
    have ix := i_add (x := (8 : Int32) * l1) (y := l3) (by omega) (by omega)
    have ix' : (((8 : Int32) * l1) + l3).toInt = ((8 * a + of : Nat) : Int) := by omega
    have eB : (Int32.ofNat (K (tw_is a of))).toInt = _ := i_ofNat (lB of (by omega))
    show Ok (F_X12_taught_b38 (F_X12_taught_L38 n) (some 175) l1 l3 M) _
    delta F_X12_taught_b38
    rw [if_neg (fun z => by have := i_lt z; omega), e_gR H (w := 190) rfl (by decide), Option.bind_some, e_aI H (t := 20) (i := 190) (n := 56) rfl (by decide) (by omega) (by omega), Option.bind_some, e_gI H, Option.bind_some, i_cl ix', A.1, A.2 a of ha (by omega)]
    by_cases o7 : of = 7
    · subst o7
      by_cases c : K (tw_is a 7) = K (fun _ => 1)
      · rw [if_pos (by rw [c]), if_pos (Int32.toInt_inj.mp (by omega))]
        exact Ok_s (if_pos c).symm
      · rw [if_neg (fun z => c (by have := i_eq z; omega))]
        cases n with
        | zero => omega
        | succ n =>
          have nx := i_nx h3 (by omega)
          show Ok (F_X12_taught_b38 (F_X12_taught_L38 n) (some 175) l1 (l3 + 1) M) _
          delta F_X12_taught_b38
          rw [if_pos (Int32.lt_iff_toInt_lt.mpr (by omega))]
          exact Ok_s (if_neg c).symm
    · rw [if_neg (fun z => n7 of (by omega) (by have := i_eq z; omega))]
      exact ih (of + 1) (i_nx h3 (by omega)) (by omega) (by omega)
theorem lw9_taught {L : Nat} {M : gM} {l1 l2 : Int32} (R : lw9 L M) : ∃ w M2, F_X11_taught (some 2) l1 l2 M = some w ∧ F_X12_taught (some 175) l1 l2 M = some (w, M2) ∧ lw9 L M2 ∧ M2.2.1 0 = M.2.1 0 := by
  have G := R.1.2
  have k2 := G_k2 G
  refine lw9_rq R (S_X12_taught R.1.1.1.1.1.1.2) (by decide) (by decide) (by decide) (by decide) (by decide) (fun e σ nx sz P I rc Rr C E X2 h6 hf f1 => ?_)
  have X := C.1.1.2
  have V := X.1.1.2.2
  have Q := X.2.2.2.2.1
  have nn := s_Vn V
  have c1 := C_isHeirX (l := l1) k2 C.1.1.1 X.1.1
  have c2 := C_isThingX (l := l2) k2 C.1.1.1 X.1.1
  by_cases kH : s_iH σ l1 = true
  · by_cases kT : s_iT σ l2 = true
    · obtain ⟨a, a1, a2, a3, _⟩ := s_iH_n V kH
      obtain ⟨b, b1, b2, b3, _⟩ := s_iT_n V kT
      obtain ⟨_, ⟨⟨ks, _⟩, _⟩, _⟩ := k_XE X.1.1
      have er : F_X8_errs (some 9) (some e) l1 l2 M = some (if tw_wr σ b a = true then 1 else 0) := C_errs X.1.1 a1 b1 a2 (by omega)
      by_cases w : tw_wr σ b a = true
      · have sa := tw_said V Q a2 w
        have s0 := tw_sh_0 V (tw_wr_iff.mp w).1
        refine ⟨if tw_sm σ b (tw_is a 7) (hs_m σ) 0 (fun _ => 0) = tw_sm σ b (fun _ => 1) (hs_m σ) 0 (fun _ => 0) then -1 else -2, ?_, ?_⟩
        · delta F_X11_taught F_X11_taught_b0
          rw [t_gO k2, Option.bind_some, c1, Option.bind_some, if_pos kH, if_neg (by decide), c2, Option.bind_some, if_pos kT, if_neg (by decide), t_gR k2 (G_r5 G), Option.bind_some, t_gR k2 C.1.1.1, Option.bind_some, t_gO ks, Option.bind_some, er, Option.bind_some, if_pos w, if_neg (by decide), C_sharersX G C.1.1.1 X.1.1 a1 b1 a2 b2, Option.bind_some, if_pos w]
          by_cases sh : tw_sh σ b a
          · rw [if_neg (fun z => s0.mp z sh), if_neg (fun z => sa.2.2.mp z sh)]
          · rw [if_pos (s0.mpr sh), if_pos (sa.2.2.mpr sh)]
        · delta F_X12_taught F_X12_taught_b0
          rw [e_gO X2.1, Option.bind_some, E_isHeirX X2, Option.bind_some, if_pos kH, if_neg (by decide), E_isThingX X2, Option.bind_some, if_pos kT, if_neg (by decide), E_isWrong X2 a1 b1 (by omega) (by omega), Option.bind_some, if_pos w, if_neg (by decide)]
          refine Ok_b (E_gathersWays X2 b1 b2) (fun M5 z => ?_)
          exact E_taught_L38 z.1.1 z.2 a1 a2 nn.2.2 sa.1.1 sa.1.2 sa.2.1 g_fuel 0 (l3 := 0) rfl (by decide) (n_fu (by omega))
      · refine ⟨-3, ?_, ?_⟩
        · delta F_X11_taught F_X11_taught_b0
          rw [t_gO k2, Option.bind_some, c1, Option.bind_some, if_pos kH, if_neg (by decide), c2, Option.bind_some, if_pos kT, if_neg (by decide), t_gR k2 (G_r5 G), Option.bind_some, t_gR k2 C.1.1.1, Option.bind_some, t_gO ks, Option.bind_some, er, Option.bind_some, if_neg w, if_pos rfl]
        · delta F_X12_taught F_X12_taught_b0
          rw [e_gO X2.1, Option.bind_some, E_isHeirX X2, Option.bind_some, if_pos kH, if_neg (by decide), E_isThingX X2, Option.bind_some, if_pos kT, if_neg (by decide), E_isWrong X2 a1 b1 (by omega) (by omega), Option.bind_some, if_neg w, if_pos rfl]
          exact Ok_s rfl
    · refine ⟨-4, ?_, ?_⟩
      · delta F_X11_taught F_X11_taught_b0 F_X11_taught_b16
        rw [t_gO k2, Option.bind_some, c1, Option.bind_some, if_pos kH, if_neg (by decide), c2, Option.bind_some, if_neg kT, if_pos rfl]
      · delta F_X12_taught F_X12_taught_b0 F_X12_taught_b16
        rw [e_gO X2.1, Option.bind_some, E_isHeirX X2, Option.bind_some, if_pos kH, if_neg (by decide), E_isThingX X2, Option.bind_some, if_neg kT, if_pos rfl]
        exact Ok_s rfl
  · refine ⟨-4, ?_, ?_⟩
    · delta F_X11_taught F_X11_taught_b0 F_X11_taught_b16
      rw [t_gO k2, Option.bind_some, c1, Option.bind_some, if_neg kH, if_pos rfl]
    · delta F_X12_taught F_X12_taught_b0 F_X12_taught_b16
      rw [e_gO X2.1, Option.bind_some, E_isHeirX X2, Option.bind_some, if_neg kH, if_pos rfl]
      exact Ok_s rfl
