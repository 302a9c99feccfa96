-- 7zat.prompts
/-! PROMPTS: what one loses at an AGE -/
def s_pa (σ : Nat → Int32) (h t : Nat) (g : Int32) : Int32 :=
  let a := if hs_is (σ 8) (Int32.ofNat t) = 1 then σ (11 + 4 * t) * (2 : Int32) else σ (11 + 4 * t)
  let b := if hs_is (σ 7) (Int32.ofNat t) = 1 then a / 2 else a
  let c := b + g / 20
  if hs_is (σ 6) (Int32.ofNat h) = 1 then c / 2 else c
theorem pa_a {a g : Int32} (hg : 0 ≤ g.toInt ∧ g.toInt ≤ 99) (ha : 0 ≤ a.toInt ∧ a.toInt ≤ 40) : 0 ≤ (a + g / 20).toInt ∧ (a + g / 20).toInt ≤ 44 := by
  have d := i_div (x := g) (c := (20 : Int32)) (n := 20) rfl (by decide) (by omega)
  have e := i_add (x := a) (y := g / 20) (by omega) (by omega)
  omega
theorem pa_r {σ : Nat → Int32} {h t : Nat} {g : Int32} (V : s_V σ) (ht : t < hs_n σ) (hg : 0 ≤ g.toInt ∧ g.toInt ≤ 99) : 0 ≤ (s_pa σ h t g).toInt ∧ (s_pa σ h t g).toInt ≤ 44 := by
  have b := (s_pl_b V ht).1
  unfold s_pa
  dsimp only
  generalize (if hs_is (σ 8) (Int32.ofNat t) = 1 then σ (11 + 4 * t) * (2 : Int32) else σ (11 + 4 * t)) = a at b ⊢
  have c := s_half (a := a) (c := hs_is (σ 7) (Int32.ofNat t) = 1) ⟨b.1, by omega⟩
  generalize (if hs_is (σ 7) (Int32.ofNat t) = 1 then a / 2 else a) = a2 at c ⊢
  have d := pa_a (a := a2) hg ⟨c.1, by omega⟩
  generalize a2 + g / 20 = a3 at d ⊢
  have e := s_half (a := a3) (c := hs_is (σ 6) (Int32.ofNat h) = 1) d
  omega
theorem CA_plainLoss {M : gM} {s e h t : Nat} {σ : Nat → Int32} {l1 l2 g : Int32} (X : k_X M s e σ) (h1 : l1.toInt = (h : Int)) (h2 : l2.toInt = (t : Int)) (hh : h < hs_m σ) (ht : t < hs_n σ) : F_X1_plainLoss (some e) l1 l2 (g) (σ 8) M = some (s_pa σ h t g) := by
  obtain ⟨⟨ke, ⟨e6, e7⟩, e9, e10⟩, _⟩ := k_XE X
  have nn := s_Vn X.2.2
  have R1 : g_k M (e + 2) = (20, 7) ∧ M.2.2.2 e 1 = some (e + 2) := k_XR (i := 1) X (by decide)
  have fd : M.2.1 (e + 2) t = σ (11 + 4 * t) := (X.2.1.1.2.2.1 t (by omega)).1.2
  have n1 := i_nt h1 (by omega)
  have n2 := i_nt h2 (by omega)
  delta F_X1_plainLoss F_X1_plainLoss_b0 F_X1_plainLoss_b27 F_X1_plainLoss_b47
  unfold s_pa
  dsimp only
  have ai : aI 20 M (some (e + 2)) l2 = some (σ (11 + 4 * t)) := by rw [t_aI R1.1 (by omega) (by omega), i_cl h2, fd]
  have g9 : gI 1 M (some e) 9 = some (σ 7) := by rw [t_gI ke, e9]
  have g10 : gI 1 M (some e) 10 = some (σ 6) := by rw [t_gI ke, e10]
  simp only [C_bit, Option.bind_some, t_gR ke R1.2, ai, g9, g10, ← n1, ← n2]
  by_cases c1 : hs_is (σ 8) l2 = 1
  · simp only [if_pos c1, Option.bind_some, t_gR ke R1.2, ai, g9, g10]
    by_cases c2 : hs_is (σ 7) l2 = 1
    · simp only [if_pos c2, Option.bind_some]
      by_cases c3 : hs_is (σ 6) l1 = 1
      · simp only [if_pos c3]
      · simp only [if_neg c3]
    · simp only [if_neg c2, Option.bind_some]
      by_cases c3 : hs_is (σ 6) l1 = 1
      · simp only [if_pos c3]
      · simp only [if_neg c3]
  · simp only [if_neg c1, Option.bind_some, t_gR ke R1.2, ai, g9, g10]
    by_cases c2 : hs_is (σ 7) l2 = 1
    · simp only [if_pos c2, Option.bind_some]
      by_cases c3 : hs_is (σ 6) l1 = 1
      · simp only [if_pos c3]
      · simp only [if_neg c3]
    · simp only [if_neg c2, Option.bind_some]
      by_cases c3 : hs_is (σ 6) l1 = 1
      · simp only [if_pos c3]
      · simp only [if_neg c3]
theorem EA_fades {M : gM} {h t : Nat} {σ : Nat → Int32} {l1 l2 g : Int32} (hg : 0 ≤ g.toInt ∧ g.toInt ≤ 99) (X : e_V M σ) (h1 : l1.toInt = (h : Int)) (h2 : l2.toInt = (t : Int)) (hh : h < hs_m σ) (ht : t < hs_n σ) : F_X12_fades (some 175) l1 l2 (g) M = some (s_pa σ h t g) := by
  have nn := s_Vn X.2.2
  have b := s_pl_b X.2.2 ht
  have n1 := i_nt h1 (by omega)
  have n2 := i_nt h2 (by omega)
  have z99 : (99 : Int32).toInt = 99 := rfl
  delta F_X12_fades F_X12_fades_b0
  rw [e_gO X.1, Option.bind_some, E_thingOf X h2 (w := 1) rfl (by omega) (by decide), Option.bind_some, show 10 + 4 * t + 1 = 11 + 4 * t by omega, e_sd X (k := 8) rfl (by decide), R_isOf, Option.bind_some]
  unfold s_pa
  dsimp only
  rw [← n1, ← n2, b.2]
  rw [← n2, b.2] at b
  have b71 : ∀ a : Int32, F_X12_fades_b71 M (some 175) l1 a = some (if hs_is (σ 6) l1 = 1 then a / 2 else a) := by
    intro a
    delta F_X12_fades_b71
    rw [e_sd X (k := 6) rfl (by decide), R_isOf, Option.bind_some]
    by_cases c : hs_is (σ 6) l1 = 1
    · rw [if_pos c, if_pos c, if_neg (by decide)]
    · rw [if_neg c, if_neg c, if_pos rfl]
  have b48 : ∀ a : Int32, 0 ≤ a.toInt ∧ a.toInt ≤ 40 → F_X12_fades_b48 M (some 175) l1 (g) a = some (if hs_is (σ 6) l1 = 1 then (a + g / 20) / 2 else a + g / 20) := by
    intro a ha
    have r := pa_a hg ha
    delta F_X12_fades_b48
    rw [if_pos (Int32.le_iff_toInt_le.mpr (by omega)), b71]
  have b28 : ∀ a : Int32, 0 ≤ a.toInt ∧ a.toInt ≤ 40 → F_X12_fades_b28 M (some 175) l1 l2 (g) a = some (if hs_is (σ 6) l1 = 1 then ((if hs_is (σ 7) l2 = 1 then a / 2 else a) + g / 20) / 2 else (if hs_is (σ 7) l2 = 1 then a / 2 else a) + g / 20) := by
    intro a ha
    have r := s_half (a := a) (c := hs_is (σ 7) l2 = 1) ⟨ha.1, by omega⟩
    delta F_X12_fades_b28
    rw [e_sd X (k := 7) rfl (by decide), R_isOf, Option.bind_some]
    by_cases c : hs_is (σ 7) l2 = 1
    · rw [if_pos c] at r
      rw [if_pos c, if_pos c, if_neg (by decide)]
      exact b48 _ ⟨r.1, by omega⟩
    · rw [if_neg c, if_neg c, if_pos rfl]
      exact b48 _ ha
  by_cases c : hs_is (σ 8) l2 = 1
  · rw [if_pos c] at b
    rw [if_pos c, if_pos c, if_neg (by decide)]
    exact b28 _ b.1
  · rw [if_neg c] at b
    rw [if_neg c, if_neg c, if_pos rfl]
    exact b28 _ b.1
/-! the fewest, as late as can be -/
def s_ga (σ : Nat → Int32) (h i : Nat) : Int32 := if (σ (38 + 2 * h)).toInt + (i : Int) < 99 then σ (38 + 2 * h) + Int32.ofNat i else 99
theorem ga_i {σ : Nat → Int32} {h i : Nat} (hg : 0 ≤ (σ (38 + 2 * h)).toInt ∧ (σ (38 + 2 * h)).toInt ≤ 99) (hi : i ≤ 1000) : (s_ga σ h i).toInt = if (σ (38 + 2 * h)).toInt + (i : Int) < 99 then (σ (38 + 2 * h)).toInt + (i : Int) else 99 := by
  have e : (Int32.ofNat i).toInt = (i : Int) := i_ofNat (by omega)
  unfold s_ga
  by_cases c : (σ (38 + 2 * h)).toInt + (i : Int) < 99
  · rw [if_pos c, if_pos c, i_add (by omega) (by omega), e]
  · rw [if_neg c, if_neg c]
    rfl
theorem ga_r {σ : Nat → Int32} {h i : Nat} (hg : 0 ≤ (σ (38 + 2 * h)).toInt ∧ (σ (38 + 2 * h)).toInt ≤ 99) (hi : i ≤ 1000) : 0 ≤ (s_ga σ h i).toInt ∧ (s_ga σ h i).toInt ≤ 99 := by
  rw [ga_i hg hi]
  split <;> omega
def s_pk (L s : Nat) : Nat := if L < s then 0 else (L - s) / 10 + 1
theorem pk_r {L s : Nat} (hL : L ≤ 44) (hs : 1 ≤ s ∧ s ≤ 99) : (L < s + 10 * s_pk L s ∧ s + 10 * s_pk L s - L ≤ 99) ∧ s_pk L s ≤ 5 ∧ s + 10 * s_pk L s ≤ 99 := by
  unfold s_pk
  by_cases c : L < s
  · rw [if_pos c]
    omega
  · rw [if_neg c]
    omega
theorem pk_0 {L s : Nat} (h : L < s) : s_pk L s = 0 := if_pos h
theorem pk_1 {L s : Nat} (h : ¬ L < s) : s_pk L s = s_pk L (s + 10) + 1 := by
  unfold s_pk
  rw [if_neg h]
  by_cases c : L < s + 10
  · rw [if_pos c]
    omega
  · rw [if_neg c]
    omega
theorem pk_ex {L s c x v j y : Nat} (h1 : c ≤ v) (h2 : (x : Int) ≤ (s : Int) + 10 * ((v : Int) - (c : Int))) (hy : y ≤ x + 10 * j) (hp : L < y) : c + s_pk L s ≤ v + j ∧ ((y - L : Nat) : Int) ≤ ((s + 10 * s_pk L s - L : Nat) : Int) + 10 * (((v + j : Nat) : Int) - ((c + s_pk L s : Nat) : Int)) := by
  unfold s_pk
  by_cases c : L < s
  · rw [if_pos c]
    omega
  · rw [if_neg c]
    omega
def s_pg (L : Nat → Nat) (s : Nat) : Nat → Nat × Nat
  | 0 => (s, 0)
  | i + 1 => ((s_pg L s i).1 + 10 * s_pk (L i) (s_pg L s i).1 - L i, (s_pg L s i).2 + s_pk (L i) (s_pg L s i).1)
theorem pg_r {L : Nat → Nat} {s : Nat} (hL : ∀ i, L i ≤ 44) (hs : 1 ≤ s ∧ s ≤ 99) : ∀ i, (1 ≤ (s_pg L s i).1 ∧ (s_pg L s i).1 ≤ 99) ∧ (s_pg L s i).2 ≤ 5 * i := by
  intro i
  induction i with
  | zero => exact ⟨hs, Nat.le_refl _⟩
  | succ i ih =>
    have k := pk_r (hL i) ih.1
    show (1 ≤ (s_pg L s i).1 + 10 * s_pk (L i) (s_pg L s i).1 - L i ∧ (s_pg L s i).1 + 10 * s_pk (L i) (s_pg L s i).1 - L i ≤ 99) ∧ (s_pg L s i).2 + s_pk (L i) (s_pg L s i).1 ≤ 5 * (i + 1)
    omega
def s_pL (σ : Nat → Int32) (h t i : Nat) : Nat := if i ≤ 1000 then (s_pa σ h t (s_ga σ h i)).toNatClampNeg else 0
def s_pp (σ : Nat → Int32) (h t : Nat) : Nat → Nat × Nat := s_pg (s_pL σ h t) (s_st σ h t).toNatClampNeg
theorem pL_i {σ : Nat → Int32} {h t i : Nat} (V : s_V σ) (hh : h < hs_m σ) (ht : t < hs_n σ) (hi : i ≤ 1000) : (s_pa σ h t (s_ga σ h i)).toInt = (s_pL σ h t i : Int) ∧ (0 ≤ (s_ga σ h i).toInt ∧ (s_ga σ h i).toInt ≤ 99) := by
  have nn := s_Vn V
  have g := ga_r (i := i) (V.2.2.2 h (by omega)).1 hi
  have r := pa_r (h := h) V ht g
  have c := i_clamp r.1
  unfold s_pL
  rw [if_pos hi]
  exact ⟨c.symm, g⟩
theorem pL_r {σ : Nat → Int32} {h t : Nat} (V : s_V σ) (hh : h < hs_m σ) (ht : t < hs_n σ) (i : Nat) : s_pL σ h t i ≤ 44 := by
  by_cases c : i ≤ 1000
  · have g := pL_i V hh ht c
    have r := pa_r (h := h) V ht g.2
    omega
  · unfold s_pL
    rw [if_neg c]
    omega
theorem pp_r {σ : Nat → Int32} {h t : Nat} (V : s_V σ) (hh : h < hs_m σ) (ht : t < hs_n σ) (k : s_kn σ h t = true) (i : Nat) : (1 ≤ (s_pp σ h t i).1 ∧ (s_pp σ h t i).1 ≤ 99) ∧ (s_pp σ h t i).2 ≤ 5 * i := by
  have nn := s_Vn V
  have st := (s_kn1 V hh (t := t) (by omega) k).2
  have c := i_clamp (x := s_st σ h t) (by omega)
  exact pg_r (pL_r V hh ht) (by omega) i
/-! of the class -/
theorem C_prompts_L102 {k54 : Option Nat → Int32 → Int32 → Int32 → Int32 → Int32 → Int32 → Option Int32} {M : gM} {l1 l2 l3 l6 l8 : Int32} {L : Nat} {w : Option Int32} (h8 : l8.toInt = (L : Int)) (hL : L ≤ 44) : ∀ (n j s c : Nat) {l4 l5 l9 : Int32}, l4.toInt = (s : Int) → 1 ≤ s ∧ s ≤ 99 → l5.toInt = (c : Int) → c + s_pk L s ≤ 1000 → l9.toInt = (j : Int) → j + s_pk L s ≤ 10 → 10 - j < n → k54 (some 2) l1 l2 l3 (Int32.ofNat (s + 10 * s_pk L s - L)) (Int32.ofNat (c + s_pk L s)) (l6 + 1) = w → F_X11_prompts_L102 k54 M n (some 2) l1 l2 l3 l4 l5 l6 l8 l9 = w := by
  have z10 : (10 : Int32).toInt = 10 := rfl
  have z99 : (99 : Int32).toInt = 99 := rfl
  intro n
  induction n with
  | zero => intro j s c l4 l5 l9 _ _ _ _ _ _ hn; omega
  | succ n ih =>
    intro j s c l4 l5 l9 h4 hs h5 hc h9 hj hn hk
    have pr := pk_r hL hs
    show F_X11_prompts_b102 k54 (F_X11_prompts_L102 k54 M n) M (some 2) l1 l2 l3 l4 l5 l6 l8 l9 = w
    delta F_X11_prompts_b102
    by_cases d : l8 < l4
    · have d' := i_lt d
      have k0 := pk_0 (L := L) (s := s) (by omega)
      have sb := i_sub (x := l4) (y := l8) (by omega) (by omega)
      rw [k0] at hk
      have e : F_X11_prompts_b132 k54 M (some 2) l1 l2 l3 l4 l5 l6 l8 = w := by
        delta F_X11_prompts_b132
        rw [if_pos d, i_of (x := l4 - l8) (n := s + 10 * 0 - L) (by omega) (by omega), i_of (x := l5) (n := c + 0) (by omega) (by omega)]
        exact hk
      by_cases q : (10 : Int32) ≤ l9
      · rw [if_pos q]
        exact e
      · rw [if_neg q, if_pos d]
        exact e
    · have d' := i_nlt d
      have k1 := pk_1 (L := L) (s := s) (by omega)
      have a1 := i_addc (x := l4) (c := (10 : Int32)) (n := 10) rfl (by omega) (by omega)
      have pd : F_X11_prompted l4 M = some (l4 + (10 : Int32)) := by
        delta F_X11_prompted F_X11_prompted_b0
        rw [if_pos (Int32.lt_iff_toInt_lt.mpr (by omega))]
      rw [if_neg (fun z => by have := i_le z; omega), if_neg d, pd, Option.bind_some]
      rw [k1] at hk hj hc
      refine ih (j + 1) (s + 10) (c + 1) (by omega) (by omega) (i_nx h5 (by omega)) (by omega) (i_nx h9 (by omega)) (by omega) (by omega) ?_
      rw [show s + 10 + 10 * s_pk L (s + 10) - L = s + 10 * (s_pk L (s + 10) + 1) - L by omega, show c + 1 + s_pk L (s + 10) = c + (s_pk L (s + 10) + 1) by omega]
      exact hk
theorem C_prompts_L54 {M : gM} {e a b N : Nat} {σ : Nat → Int32} {l1 l2 l3 : Int32} (G : k_G M) (r11 : M.2.2.2 2 11 = some e) (X : k_X M 9 e σ) (a1 : l1.toInt = (a : Int)) (b1 : l2.toInt = (b : Int)) (ha : a < hs_m σ) (hb : b < hs_n σ) (k : s_kn σ a b = true) (h3 : l3.toInt = (N : Int)) (hN : N ≤ 40) : ∀ (n i : Nat) {l4 l5 l6 : Int32}, l4.toInt = ((s_pp σ a b i).1 : Int) → l5.toInt = ((s_pp σ a b i).2 : Int) → l6.toInt = (i : Int) → i ≤ N → N - i < n → F_X11_prompts_L54 M n (some 2) l1 l2 l3 l4 l5 l6 = some (Int32.ofNat (s_pp σ a b N).2) := by
  have V := X.2.2
  have nn := s_Vn V
  have k2 := G_k2 G
  obtain ⟨⟨ke, _⟩, ⟨⟨ks, _⟩, k3, _⟩, _, r2, _⟩ := k_XE X
  have ag : M.2.1 (9 + 3) a = σ (38 + 2 * a) := (X.2.1.2.2.1 a (by omega)).1
  have v8 : M.2.1 9 4 = σ 8 := X.2.1.2.1.1.1
  have gr := (V.2.2.2 a (by omega)).1
  have z99 : (99 : Int32).toInt = 99 := rfl
  intro n
  induction n with
  | zero => intro i l4 l5 l6 _ _ _ _ hn; omega
  | succ n ih =>
    intro i l4 l5 l6 h4 h5 h6 hi hn
    have pp := pp_r V ha hb k i
    show F_X11_prompts_b54 (F_X11_prompts_L54 M n) M (some 2) l1 l2 l3 l4 l5 l6 = _
    delta F_X11_prompts_b54
    by_cases c : l3 ≤ l6
    · have := i_le c
      have e0 : i = N := by omega
      subst e0
      rw [if_pos c, i_of h5 (by omega)]
    · have := i_nle c
      have ai : aI 20 M (some (9 + 3)) l1 = some (σ (38 + 2 * a)) := by rw [t_aI k3 (by omega) (by omega), i_cl a1, ag]
      have ad := i_add (x := σ (38 + 2 * a)) (y := l6) (by omega) (by omega)
      have n6 := i_of h6 (by omega)
      have eg : (if σ (38 + 2 * a) + l6 < (99 : Int32) then σ (38 + 2 * a) + l6 else (99 : Int32)) = s_ga σ a i := by
        unfold s_ga
        rw [← n6]
        by_cases d : (σ (38 + 2 * a)).toInt + (i : Int) < 99
        · rw [if_pos d, if_pos (Int32.lt_iff_toInt_lt.mpr (by omega))]
        · rw [if_neg d, if_neg (fun z => by have := i_lt z; omega)]
      have pl := CA_plainLoss (g := s_ga σ a i) X a1 b1 ha hb
      have Li := (pL_i V ha hb (i := i) (by omega)).1
      have Lr := pL_r V ha hb i
      have pr := pk_r Lr pp.1
      rw [if_neg c]
      simp only [t_gR k2 (G_r5 G), t_gR ks r2, t_gR k2 r11, t_gI ks, t_gO ke, Option.bind_some, ai, v8, eg, pl]
      refine C_prompts_L102 (k54 := F_X11_prompts_L54 M n) Li Lr g_fuel 0 _ _ h4 pp.1 h5 (by omega) rfl (by omega) (n_fu (by omega)) ?_
      have un : s_pp σ a b (i + 1) = ((s_pp σ a b i).1 + 10 * s_pk (s_pL σ a b i) (s_pp σ a b i).1 - s_pL σ a b i, (s_pp σ a b i).2 + s_pk (s_pL σ a b i) (s_pp σ a b i).1) := rfl
      refine ih (i + 1) ?_ ?_ (i_nx h6 (by omega)) (by omega) (by omega)
      · rw [un]
        exact i_ofNat (by omega)
      · rw [un]
        exact i_ofNat (by omega)
/-! of the reference: what can be -/
def pq_J (f : Nat → Int32) (s c B : Nat) (d : Prop) : Prop := (∀ q : Nat, q < 100 → 0 ≤ (f q).toInt → (1 ≤ q ∧ (c : Int) ≤ (f q).toInt ∧ (q : Int) ≤ (s : Int) + 10 * ((f q).toInt - (c : Int))) ∧ (f q).toInt ≤ (B : Int)) ∧ (d → 0 ≤ (f s).toInt ∧ (f s).toInt ≤ (c : Int))
theorem pJ_w {f : Nat → Int32} {s c B : Nat} {d d' : Prop} (h : pq_J f s c B d) (hd : d' → d) : pq_J f s c B d' := ⟨h.1, fun z => h.2 (hd z)⟩
theorem pJ_c {f g : Nat → Int32} {s c B : Nat} {d : Prop} (h : pq_J f s c B d) (hs : s < 100) (e : ∀ q, q < 100 → g q = f q) : pq_J g s c B d := by
  refine ⟨fun q hq h0 => ?_, fun z => ?_⟩
  · rw [e q hq] at h0 ⊢
    exact h.1 q hq h0
  · rw [e s hs]
    exact h.2 z
theorem pJ_up {g g' : Nat → Int32} {s c B z v : Nat} {d d' : Prop} (h : pq_J g s c B d) (hz : 1 ≤ z) (e : (g' z).toInt = (v : Int)) (o : ∀ q, q ≠ z → g' q = g q) (hc : c ≤ v) (hb : (z : Int) ≤ (s : Int) + 10 * ((v : Int) - (c : Int))) (hB : v ≤ B) (hd : d' → d ∨ (z = s ∧ v = c)) (lt : (g z).toInt < 0 ∨ (v : Int) < (g z).toInt) : pq_J g' s c B d' := by
  refine ⟨fun q hq h0 => ?_, fun dd => ?_⟩
  · by_cases k : q = z
    · subst k
      rw [e]
      omega
    · rw [o q k] at h0 ⊢
      exact h.1 q hq h0
  · by_cases k : s = z
    · subst k
      rw [e]
      rcases hd dd with d1 | d1
      · have := h.2 d1
        omega
      · omega
    · rw [o s k]
      rcases hd dd with d1 | d1
      · exact h.2 d1
      · exact absurd d1.1.symm k
theorem pJ_no {g : Nat → Int32} {s c B z v : Nat} {d d' : Prop} (h : pq_J g s c B d) (ge : 0 ≤ (g z).toInt ∧ (g z).toInt ≤ (v : Int)) (hd : d' → d ∨ (z = s ∧ v = c)) : pq_J g s c B d' := by
  refine ⟨h.1, fun dd => ?_⟩
  rcases hd dd with d1 | d1
  · exact h.2 d1
  · rw [d1.1, d1.2] at ge
    exact ge
abbrev e_PP : Nat := 2 ^ 56 + 2 ^ 57
def e_p (M0 M : gM) : Prop := y_HT M ∧ y_Fr e_PP M0 M
theorem E_py_L31 {M0 : gM} {s c B L x : Nat} {l1 l2 : Int32} {k23 : Option Nat → Int32 → Int32 → gM → Option gM} {Q : gM → Prop} (h1 : l1.toInt = (L : Int)) (hL : L ≤ 44) (hs : 1 ≤ s ∧ s ≤ 99) (hB : B ≤ 2000) (h2 : l2.toInt = (x : Int)) (hx : 1 ≤ x ∧ x ≤ 99)
    (hk : ∀ {M : gM}, e_p M0 M → pq_J (M.2.1 191) s c B True → pq_J (M.2.1 192) (s + 10 * s_pk L s - L) (c + s_pk L s) (B + 10) (s ≤ x) → Ok (k23 (some 175) l1 (l2 + 1) M) Q) : ∀ (n j : Nat) {l3 : Int32} {M : gM}, e_p M0 M → pq_J (M.2.1 191) s c B True → pq_J (M.2.1 192) (s + 10 * s_pk L s - L) (c + s_pk L s) (B + 10) (s < x ∨ (s = x ∧ s_pk L s < j)) → l3.toInt = (j : Int) → j ≤ 11 → 11 - j < n → Ok (F_X12_promptsYear_L31 k23 n (some 175) l1 l2 l3 M) Q := by
  have z10 : (10 : Int32).toInt = 10 := rfl
  have z99 : (99 : Int32).toInt = 99 := rfl
  have z0 : (0 : Int32).toInt = 0 := rfl
  have pr := pk_r hL hs
  intro n
  induction n with
  | zero => intro j l3 M _ _ _ _ _ hn; omega
  | succ n ih =>
    intro j l3 M Z F G h3 hj hn
    show Ok (F_X12_promptsYear_b31 k23 (F_X12_promptsYear_L31 k23 n) (some 175) l1 l2 l3 M) Q
    delta F_X12_promptsYear_b31 F_X12_promptsYear_b126
    refine Ok_i (fun q => ?_) (fun q => ?_)
    · have := i_lt q
      exact hk Z F (pJ_w G (fun z => by omega))
    have q' := i_nlt q
    refine y_gR Z.1 (w := 191) rfl (by decide) (y_aI Z.1 (i := 191) (n := 100) rfl (by decide) (by omega) (by omega) (fun v2 e2 => ?_))
    rw [i_cl h2] at e2
    refine Ok_i (fun q2 => ?_) (fun q2 => ?_)
    · have := i_lt q2
      refine hk Z F (pJ_w G (fun z => ?_))
      by_cases sx : s = x
      · have f := (F.2 trivial).1
        rw [sx, e2] at f
        omega
      · omega
    have q2' := i_nlt q2
    obtain ⟨v, hv⟩ : ∃ v : Nat, v2.toInt = (v : Int) := ⟨v2.toInt.toNat, by omega⟩
    have fx := F.1 x (by omega) (by rw [e2]; omega)
    rw [e2, hv] at fx
    have m10 := i_mulL (c := (10 : Int32)) (x := l3) (n := 10) rfl (by omega) (by omega)
    have s10 := i_add (x := l2) (y := (10 : Int32) * l3) (by omega) (by omega)
    have go : ∀ (s0 : Int32) (y : Nat), s0.toInt = (y : Int) → y ≤ 99 → y ≤ x + 10 * j → (x + 10 * j ≤ 99 → y = x + 10 * j) → Ok (F_X12_promptsYear_b68 k23 (F_X12_promptsYear_L31 k23 n) (some 175) l1 l2 l3 s0 M) Q := by
      intro s0 y hy y99 yx yy
      have sb := i_sub (x := s0) (y := l1) (by omega) (by omega)
      delta F_X12_promptsYear_b68 F_X12_promptsYear_b120
      refine Ok_i (fun r => ?_) (fun r => ?_)
      · have := i_le r
        refine ih (j + 1) Z F (pJ_w G (fun z => ?_)) (i_nx h3 (by omega)) (by omega) (by omega)
        by_cases w : s = x ∧ s_pk L s = j
        · have := yy (by omega)
          omega
        · omega
      have r' := i_nle r
      have ex := pk_ex (L := L) (s := s) (c := c) (x := x) (v := v) (j := j) (y := y) (by omega) fx.1.2.2 yx (by omega)
      have hz : (s0 - l1).toInt = ((y - L : Nat) : Int) := by omega
      have dd : (s < x ∨ (s = x ∧ s_pk L s < j + 1)) → (s < x ∨ (s = x ∧ s_pk L s < j)) ∨ (y - L = s + 10 * s_pk L s - L ∧ v + j = c + s_pk L s) := fun z => by
        by_cases w : s = x ∧ s_pk L s = j
        · have := yy (by omega)
          have f := (F.2 trivial).2
          rw [w.1, e2] at f
          omega
        · omega
      refine y_gR Z.1 (w := 192) rfl (by decide) (y_aI Z.1 (i := 192) (n := 100) rfl (by decide) (by omega) (by omega) (fun g1 eg1 => ?_))
      rw [i_cl hz] at eg1
      have upd : g1.toInt < 0 ∨ ((v + j : Nat) : Int) < g1.toInt → Ok (F_X12_promptsYear_b105 k23 (F_X12_promptsYear_L31 k23 n) (some 175) l1 l2 l3 (s0 - l1) M) Q := by
        intro lt
        delta F_X12_promptsYear_b105 F_X12_promptsYear_b120
        refine y_gR Z.1 (w := 192) rfl (by decide) (y_gR Z.1 (w := 191) rfl (by decide) (y_aI Z.1 (i := 191) (n := 100) rfl (by decide) (by omega) (by omega) (fun v3 e3 => ?_)))
        rw [i_cl h2, e2] at e3
        subst e3
        have ad := i_add (x := v2) (y := l3) (by omega) (by omega)
        refine y_sI (S := e_PP) Z.1 (i := 192) (n := 100) rfl (by omega) (by omega) (y_full rfl) (by decide) (fun M4 H4 f4 e4 o4 _ => ?_)
        rw [i_cl hz] at e4 o4
        have o1 : M4.2.1 191 = M.2.1 191 := funext (fun a => o4 191 a (Or.inl (by decide)))
        refine ih (j + 1) ⟨H4, y_tr Z.2 f4⟩ (by rw [o1]; exact F) ?_ (i_nx h3 (by omega)) (by omega) (by omega)
        exact pJ_up G (z := y - L) (v := v + j) (by omega) (by rw [e4]; omega) (fun a ha => o4 192 a (Or.inr ha)) ex.1 ex.2 (by omega) dd (by rw [eg1]; exact lt)
      refine Ok_i (fun u => upd (Or.inl (by have := i_lt u; omega))) (fun u => ?_)
      have u' := i_nlt u
      refine y_gR Z.1 (w := 191) rfl (by decide) (y_aI Z.1 (i := 191) (n := 100) rfl (by decide) (by omega) (by omega) (fun v4 e4 => ?_))
      rw [i_cl h2, e2] at e4
      subst e4
      refine y_gR Z.1 (w := 192) rfl (by decide) (y_aI Z.1 (i := 192) (n := 100) rfl (by decide) (by omega) (by omega) (fun v6 e6 => ?_))
      rw [i_cl hz, eg1] at e6
      subst e6
      have ad := i_add (x := v2) (y := l3) (by omega) (by omega)
      refine Ok_i (fun w => ?_) (fun w => upd (Or.inr (by have := i_nle w; omega)))
      have := i_le w
      exact ih (j + 1) Z F (pJ_no G (z := y - L) (v := v + j) (by rw [eg1]; omega) dd) (i_nx h3 (by omega)) (by omega) (by omega)
    refine Ok_i (fun r => ?_) (fun r => ?_)
    · have := i_le r
      exact go _ (x + 10 * j) (by omega) (by omega) (by omega) (fun _ => rfl)
    · have := i_nle r
      exact go _ 99 (by omega) (by omega) (by omega) (fun z => by omega)
theorem E_py_L134 {M0 : gM} {s c B : Nat} (hs : s < 100) : ∀ (n k : Nat) {l2 : Int32} {M : gM}, e_p M0 M → pq_J (M.2.1 192) s c B True → (∀ q, q < k → M.2.1 191 q = M.2.1 192 q) → l2.toInt = (k : Int) → k ≤ 100 → 100 - k < n → Ok (F_X12_promptsYear_L134 n (some 175) l2 M) (fun M' => e_p M0 M' ∧ pq_J (M'.2.1 191) s c B True) := by
  have z99 : (99 : Int32).toInt = 99 := rfl
  intro n
  induction n with
  | zero => intro k l2 M _ _ _ _ _ hn; omega
  | succ n ih =>
    intro k l2 M Z G C hl hk hn
    show Ok (F_X12_promptsYear_b134 (F_X12_promptsYear_L134 n) (some 175) l2 M) _
    delta F_X12_promptsYear_b134
    refine Ok_i (fun q => ?_) (fun q => ?_)
    · have := i_lt q
      exact Ok_s ⟨Z, pJ_c G hs (fun a ha => C a (by omega))⟩
    have := i_nlt q
    refine y_gR Z.1 (w := 191) rfl (by decide) (y_gR Z.1 (w := 192) rfl (by decide) (y_aI Z.1 (i := 192) (n := 100) rfl (by decide) (by omega) (by omega) (fun v3 e3 => ?_)))
    rw [i_cl hl] at e3
    refine y_sI (S := e_PP) Z.1 (i := 191) (n := 100) rfl (by omega) (by omega) (y_full rfl) (by decide) (fun M4 H4 f4 e4 o4 _ => ?_)
    rw [i_cl hl] at e4 o4
    have o1 : M4.2.1 192 = M.2.1 192 := funext (fun a => o4 192 a (Or.inl (by decide)))
    refine ih (k + 1) ⟨H4, y_tr Z.2 f4⟩ (by rw [o1]; exact G) (fun a ha => ?_) (i_nx hl (by omega)) (by omega) (by omega)
    rw [o1]
    by_cases ak : a = k
    · rw [ak, e4, e3]
    · rw [o4 191 a (Or.inr ak)]
      exact C a (by omega)
theorem E_py_L23 {M0 : gM} {s c B L : Nat} {l1 : Int32} (h1 : l1.toInt = (L : Int)) (hL : L ≤ 44) (hs : 1 ≤ s ∧ s ≤ 99) (hB : B ≤ 2000) : ∀ (n x : Nat) {l2 : Int32} {M : gM}, e_p M0 M → pq_J (M.2.1 191) s c B True → pq_J (M.2.1 192) (s + 10 * s_pk L s - L) (c + s_pk L s) (B + 10) (s < x) → l2.toInt = (x : Int) → 1 ≤ x → x ≤ 100 → 100 - x < n → Ok (F_X12_promptsYear_L23 n (some 175) l1 l2 M) (fun M' => e_p M0 M' ∧ pq_J (M'.2.1 191) (s + 10 * s_pk L s - L) (c + s_pk L s) (B + 10) True) := by
  have z99 : (99 : Int32).toInt = 99 := rfl
  have pr := pk_r hL hs
  intro n
  induction n with
  | zero => intro x l2 M _ _ _ _ _ _ hn; omega
  | succ n ih =>
    intro x l2 M Z F G hl hx1 hx hn
    show Ok (F_X12_promptsYear_b23 (F_X12_promptsYear_L23 n) (some 175) l1 l2 M) _
    delta F_X12_promptsYear_b23
    refine Ok_i (fun q => ?_) (fun q => ?_)
    · have := i_lt q
      exact E_py_L134 (by omega) g_fuel 0 (l2 := 0) Z (pJ_w G (fun _ => by omega)) (fun a ha => absurd ha (Nat.not_lt_zero a)) rfl (Nat.zero_le _) (n_fu (by omega))
    · have := i_nlt q
      refine E_py_L31 (k23 := F_X12_promptsYear_L23 n) h1 hL hs hB hl (by omega) (fun {M2} Z2 F2 G2 => ?_) g_fuel 0 (l3 := 0) Z F (pJ_w G (fun z => by omega)) rfl (Nat.zero_le _) (n_fu (by omega))
      exact ih (x + 1) Z2 F2 (pJ_w G2 (fun z => by omega)) (i_nx hl (by omega)) (by omega) (by omega) (by omega)
theorem E_py_L2 {M0 : gM} {s c B L : Nat} {l1 : Int32} (h1 : l1.toInt = (L : Int)) (hL : L ≤ 44) (hs : 1 ≤ s ∧ s ≤ 99) (hB : B ≤ 2000) : ∀ (n k : Nat) {l2 : Int32} {M : gM}, e_p M0 M → pq_J (M.2.1 191) s c B True → (∀ q, q < k → M.2.1 192 q = -1) → l2.toInt = (k : Int) → k ≤ 100 → 100 - k < n → Ok (F_X12_promptsYear_L2 n (some 175) l1 l2 M) (fun M' => e_p M0 M' ∧ pq_J (M'.2.1 191) (s + 10 * s_pk L s - L) (c + s_pk L s) (B + 10) True) := by
  have z99 : (99 : Int32).toInt = 99 := rfl
  have zm : (-1 : Int32).toInt = -1 := rfl
  intro n
  induction n with
  | zero => intro k l2 M _ _ _ _ _ hn; omega
  | succ n ih =>
    intro k l2 M Z F C hl hk hn
    show Ok (F_X12_promptsYear_b2 (F_X12_promptsYear_L2 n) (some 175) l1 l2 M) _
    delta F_X12_promptsYear_b2
    refine Ok_i (fun q => ?_) (fun q => ?_)
    · have := i_lt q
      refine E_py_L23 h1 hL hs hB g_fuel 1 (l2 := 1) Z F ⟨fun a ha h0 => ?_, fun z => by omega⟩ rfl (by decide) (by decide) (n_fu (by omega))
      rw [C a (by omega)] at h0
      omega
    have := i_nlt q
    refine y_gR Z.1 (w := 192) rfl (by decide) (y_sI (S := e_PP) Z.1 (i := 192) (n := 100) rfl (by omega) (by omega) (y_full rfl) (by decide) (fun M4 H4 f4 e4 o4 _ => ?_))
    rw [i_cl hl] at e4 o4
    have o1 : M4.2.1 191 = M.2.1 191 := funext (fun a => o4 191 a (Or.inl (by decide)))
    refine ih (k + 1) ⟨H4, y_tr Z.2 f4⟩ (by rw [o1]; exact F) (fun a ha => ?_) (i_nx hl (by omega)) (by omega) (by omega)
    by_cases ak : a = k
    · rw [ak, e4]
    · rw [o4 192 a (Or.inr ak)]
      exact C a (by omega)
theorem E_promptsYear {M0 M : gM} {s c B L : Nat} {l1 : Int32} (h1 : l1.toInt = (L : Int)) (hL : L ≤ 44) (hs : 1 ≤ s ∧ s ≤ 99) (hB : B ≤ 2000) (Z : e_p M0 M) (F : pq_J (M.2.1 191) s c B True) : Ok (F_X12_promptsYear (some 175) l1 M) (fun M' => e_p M0 M' ∧ pq_J (M'.2.1 191) (s + 10 * s_pk L s - L) (c + s_pk L s) (B + 10) True) := by
  delta F_X12_promptsYear F_X12_promptsYear_b0
  exact E_py_L2 h1 hL hs hB g_fuel 0 (l2 := 0) Z F (fun a ha => absurd ha (Nat.not_lt_zero a)) rfl (Nat.zero_le _) (n_fu (by omega))
theorem E_prompts_L153 {M : gM} {s c B : Nat} (H : y_HT M) (F : pq_J (M.2.1 191) s c B True) (hs : s ≤ 99) (hc : c ≤ 2000) : ∀ (n x : Nat) {l5 l6 : Int32}, (l5.toInt < 0 ∨ (c : Int) ≤ l5.toInt) → (s < x → 0 ≤ l5.toInt ∧ l5.toInt ≤ (c : Int)) → l6.toInt = (x : Int) → 1 ≤ x → x ≤ 100 → 100 - x < n → Ok (F_X12_prompts_L153 n (some 175) l5 l6 M) (fun q => q.1 = Int32.ofNat c) := by
  have z99 : (99 : Int32).toInt = 99 := rfl
  have z0 : (0 : Int32).toInt = 0 := rfl
  intro n
  induction n with
  | zero => intro x l5 l6 _ _ _ _ _ hn; omega
  | succ n ih =>
    intro x l5 l6 J1 J2 hl hx1 hx hn
    show Ok (F_X12_prompts_b153 (F_X12_prompts_L153 n) (some 175) l5 l6 M) _
    delta F_X12_prompts_b153 F_X12_prompts_b187 F_X12_prompts_b196
    refine Ok_i (fun q => ?_) (fun q => ?_)
    · have := i_lt q
      have := J2 (by omega)
      exact Ok_s (show l5 = Int32.ofNat c from i_of (by omega) (by omega))
    have := i_nlt q
    refine y_gR H (w := 191) rfl (by decide) (y_aI H (i := 191) (n := 100) rfl (by decide) (by omega) (by omega) (fun v2 e2 => ?_))
    rw [i_cl hl] at e2
    have f2 := F.2 trivial
    refine Ok_i (fun q2 => ?_) (fun q2 => ?_)
    · have := i_lt q2
      refine ih (x + 1) J1 (fun z => ?_) (i_nx hl (by omega)) (by omega) (by omega) (by omega)
      by_cases sx : s = x
      · rw [sx, e2] at f2
        omega
      · exact J2 (by omega)
    have q2' := i_nlt q2
    have f1 := F.1 x (by omega) (by rw [e2]; omega)
    rw [e2] at f1
    have set : (l5.toInt < 0 ∨ v2.toInt < l5.toInt) → Ok ((gR 12 M (some 175) 30).bind fun v1 => (aI 20 M v1 l6).bind fun v2 => F_X12_prompts_L153 n (some 175) v2 (l6 + 1) M) (fun q => q.1 = Int32.ofNat c) := by
      intro lt
      refine y_gR H (w := 191) rfl (by decide) (y_aI H (i := 191) (n := 100) rfl (by decide) (by omega) (by omega) (fun v3 e3 => ?_))
      rw [i_cl hl, e2] at e3
      subst e3
      refine ih (x + 1) (Or.inr f1.1.2.1) (fun z => ?_) (i_nx hl (by omega)) (by omega) (by omega) (by omega)
      by_cases sx : s = x
      · rw [sx, e2] at f2
        exact f2
      · have := J2 (by omega)
        omega
    refine Ok_i (fun u => set (Or.inl (by have := i_lt u; omega))) (fun u => ?_)
    have u' := i_nlt u
    refine y_gR H (w := 191) rfl (by decide) (y_aI H (i := 191) (n := 100) rfl (by decide) (by omega) (by omega) (fun v4 e4 => ?_))
    rw [i_cl hl, e2] at e4
    subst e4
    refine Ok_i (fun w => ?_) (fun w => set (Or.inr (i_nle w)))
    have w' := i_le w
    refine ih (x + 1) J1 (fun z => ?_) (i_nx hl (by omega)) (by omega) (by omega) (by omega)
    by_cases sx : s = x
    · rw [sx, e2] at f2
      omega
    · exact J2 (by omega)
theorem E_prompts_L104 {M0 : gM} {a b N : Nat} {σ : Nat → Int32} {l1 l2 l3 : Int32} (X0 : e_V M0 σ) (a1 : l1.toInt = (a : Int)) (b1 : l2.toInt = (b : Int)) (ha : a < hs_m σ) (hb : b < hs_n σ) (k : s_kn σ a b = true) (h3 : l3.toInt = (N : Int)) (hN : N ≤ 40) : ∀ (n i : Nat) {l4 l5 : Int32} {M : gM}, e_p M0 M → pq_J (M.2.1 191) (s_pp σ a b i).1 (s_pp σ a b i).2 (10 * i) True → l4 = s_ga σ a i → l5.toInt = (i : Int) → i ≤ N → N - i < n → Ok (F_X12_prompts_L104 n (some 175) l1 l2 l3 l4 l5 M) (fun q => q.1 = Int32.ofNat (s_pp σ a b N).2) := by
  have V := X0.2.2
  have nn := s_Vn V
  have gr := (V.2.2.2 a (by omega)).1
  have z99 : (99 : Int32).toInt = 99 := rfl
  have zm : (-2 : Int32).toInt = -2 := rfl
  intro n
  induction n with
  | zero => intro i l4 l5 M _ _ _ _ _ hn; omega
  | succ n ih =>
    intro i l4 l5 M Z F h4 h5 hi hn
    have pp := pp_r V ha hb k i
    have X := e_V_fr X0 Z.1 Z.2 (by decide)
    show Ok (F_X12_prompts_b104 (F_X12_prompts_L104 n) (some 175) l1 l2 l3 l4 l5 M) _
    delta F_X12_prompts_b104 F_X12_prompts_b138
    refine Ok_i (fun q => ?_) (fun q => ?_)
    · have := i_le q
      have e0 : i = N := by omega
      subst e0
      exact E_prompts_L153 Z.1 F pp.1.2 (by omega) g_fuel 1 (l6 := 1) (Or.inl (by omega)) (fun z => by omega) rfl (by decide) (by decide) (n_fu (by omega))
    have := i_nle q
    have Li := pL_i V ha hb (i := i) (by omega)
    have Lr := pL_r V ha hb i
    have gi := ga_i (i := i) gr (by omega)
    have gn := ga_i (i := i + 1) gr (by omega)
    refine x_eq (e_gO Z.1) (x_eq (by rw [h4]; exact EA_fades Li.2 X a1 b1 ha hb) (Ok_b (E_promptsYear Li.1 Lr pp.1 (by omega) Z F) (fun M3 z => ?_)))
    have un : s_pp σ a b (i + 1) = ((s_pp σ a b i).1 + 10 * s_pk (s_pL σ a b i) (s_pp σ a b i).1 - s_pL σ a b i, (s_pp σ a b i).2 + s_pk (s_pL σ a b i) (s_pp σ a b i).1) := rfl
    have F3 : pq_J (M3.2.1 191) (s_pp σ a b (i + 1)).1 (s_pp σ a b (i + 1)).2 (10 * (i + 1)) True := by
      rw [un]
      exact z.2
    rw [h4]
    refine Ok_i (fun q => ?_) (fun q => ?_)
    · have := i_le q
      refine ih (i + 1) z.1 F3 (Int32.toInt_inj.mp ?_) (i_nx h5 (by omega)) (by omega) (by omega)
      rw [gi] at this
      rw [gn]
      split at this <;> split <;> omega
    · have q' := i_nle q
      have ad := i_addc (x := s_ga σ a i) (c := (1 : Int32)) (n := 1) rfl (by omega) (by omega)
      refine ih (i + 1) z.1 F3 (Int32.toInt_inj.mp ?_) (i_nx h5 (by omega)) (by omega) (by omega)
      rw [ad, gi, gn]
      rw [gi] at q'
      split at q' <;> split <;> omega
theorem E_prompts_L52 {M0 : gM} {a b N : Nat} {σ : Nat → Int32} {l1 l2 l3 : Int32} (X0 : e_V M0 σ) (a1 : l1.toInt = (a : Int)) (b1 : l2.toInt = (b : Int)) (ha : a < hs_m σ) (hb : b < hs_n σ) (k : s_kn σ a b = true) (h3 : l3.toInt = (N : Int)) (hN : N ≤ 40) : ∀ (n j : Nat) {l4 : Int32} {M : gM}, e_p M0 M → (∀ q, q < j → M.2.1 191 q = if Int32.ofNat q = s_st σ a b then 0 else -1) → l4.toInt = (j : Int) → j ≤ 100 → 100 - j < n → Ok (F_X12_prompts_L52 n (some 175) l1 l2 l3 l4 M) (fun q => q.1 = Int32.ofNat (s_pp σ a b N).2) := by
  have V := X0.2.2
  have nn := s_Vn V
  have z99 : (99 : Int32).toInt = 99 := rfl
  have z0 : (0 : Int32).toInt = 0 := rfl
  have zm : (-1 : Int32).toInt = -1 := rfl
  have st := (s_kn1 V ha (t := b) (by omega) k).2
  have sc := i_clamp (x := s_st σ a b) (by omega)
  have gr := (V.2.2.2 a (by omega)).1
  intro n
  induction n with
  | zero => intro j l4 M _ _ _ _ hn; omega
  | succ n ih =>
    intro j l4 M Z C h4 hj hn
    have X := e_V_fr X0 Z.1 Z.2 (by decide)
    show Ok (F_X12_prompts_b52 (F_X12_prompts_L52 n) (some 175) l1 l2 l3 l4 M) _
    delta F_X12_prompts_b52 F_X12_prompts_b81
    refine Ok_i (fun q => ?_) (fun q => ?_)
    · have := i_lt q
      have i38 := i_mulL (c := (2 : Int32)) (x := l1) (n := 2) rfl (by omega) (by omega)
      have j38 := i_cadd (c := (38 : Int32)) (x := (2 : Int32) * l1) (n := 38) rfl (by omega) (by omega)
      rw [e_sd X (k := 38 + 2 * a) (by omega) (by omega)]
      refine E_prompts_L104 X0 a1 b1 ha hb k h3 hN g_fuel 0 (l5 := 0) Z ?_ ?_ rfl (Nat.zero_le _) (n_fu (by omega))
      · show pq_J (M.2.1 191) (s_st σ a b).toNatClampNeg 0 (10 * 0) True
        refine ⟨fun x hx h0 => ?_, fun _ => ?_⟩
        · rw [C x (by omega)] at h0 ⊢
          by_cases e : Int32.ofNat x = s_st σ a b
          · have ex : (Int32.ofNat x).toInt = (x : Int) := i_ofNat (by omega)
            rw [e] at ex
            rw [if_pos e]
            omega
          · rw [if_neg e] at h0
            omega
        · rw [C _ (by omega), if_pos (i_of (x := s_st σ a b) (by omega) (by omega)).symm]
          omega
      · refine Int32.toInt_inj.mp ?_
        rw [ga_i gr (by omega)]
        split <;> omega
    have := i_nlt q
    have step : ∀ v : Int32, (v = if l4 = s_st σ a b then 0 else -1) → Ok ((sI M (some 191) l4 v).bind fun M1 => F_X12_prompts_L52 n (some 175) l1 l2 l3 (l4 + 1) M1) (fun q => q.1 = Int32.ofNat (s_pp σ a b N).2) := by
      intro v hv
      refine y_sI (S := e_PP) Z.1 (i := 191) (n := 100) rfl (by omega) (by omega) (y_full rfl) (by decide) (fun M4 H4 f4 e4 o4 _ => ?_)
      rw [i_cl h4] at e4 o4
      refine ih (j + 1) ⟨H4, y_tr Z.2 f4⟩ (fun x hx => ?_) (i_nx h4 (by omega)) (by omega) (by omega)
      by_cases xj : x = j
      · rw [xj, e4, hv, ← i_of h4 (by omega)]
      · rw [o4 191 x (Or.inr xj)]
        exact C x (by omega)
    refine y_gR Z.1 (w := 191) rfl (by decide) (x_eq (e_gO Z.1) (x_eq (E_strengthOf X a1 b1 (by omega) (by omega)) ?_))
    refine Ok_i (fun q => ?_) (fun q => ?_)
    · exact step _ (if_pos q).symm
    · exact step _ (if_neg q).symm
/-! asked of both: the class looks, the reference reckons on paper of its own -/
theorem lw9_rq {S L : Nat} {lo hi : Int} {M : gM} {o1 : Option Int32} {o2 : Option (Int32 × gM)} (R : lw9 L M) (z2 : Ok o2 (y_PI S M lo hi)) (hW : Nat.land S y_wb = 0) (hS : Nat.land S (2 ^ 1 + 2 ^ 2 + 2 ^ 41) = 0) (h6 : Nat.land S (2 ^ 21 + 2 ^ 22 + 2 ^ 59 + 2 ^ 60 + 2 ^ 61) = 0) (h9 : Nat.land S (2 ^ 2 + 2 ^ 25 + 2 ^ 42 + 2 ^ 44 + 2 ^ 45 + 2 ^ 52 + 2 ^ 58) = 0) (h50 : S.testBit 50 = false)
    (c : ∀ (e : Nat) (σ : Nat → Int32) (nx sz : Nat) (P I : Nat → Nat → Int32) (rc : Nat) (Rr : Nat → List (Nat × Int32) × List (Nat × Nat × Nat)), w_C M e σ nx sz P I rc Rr → w_E M σ sz P I rc Rr → e_V M σ → rc ≤ 6 → (M.2.1 2 13).toInt < (rc : Int) → M.2.1 175 21 = M.2.1 2 13 → ∃ w : Int32, o1 = some w ∧ Ok o2 (fun q => q.1 = w)) : ∃ w M2, o1 = some w ∧ o2 = some (w, M2) ∧ lw9 L M2 ∧ M2.2.1 0 = M.2.1 0 := by
  obtain ⟨R8, e, σ, nx, sz, P, I, rc, Rr, C, E⟩ := R
  have W0 := R8.1.1.1.1.2
  have rc2 : (M.2.1 175 2).toInt = (rc : Int) := E.2.2.1
  have H0 := R8.1.1.1.1.1.2
  have r6 : rc ≤ 6 := by
    have := (H0.2.1 175 (by decide) 2).2
    have q : (y_tI 175 2).2 = 6 := rfl
    rw [q] at this
    omega
  have f13 := R8.1.2.1.1
  have hf : (M.2.1 2 13).toInt < (rc : Int) := by
    rw [f13, ← rc2]
    exact W0.1.1
  have X : e_V M σ := ⟨H0, E.1.1.1, C.1.1.2.1.1.2.2⟩
  obtain ⟨w, c1, c2⟩ := c e σ nx sz P I rc Rr C E X r6 hf f13.symm
  obtain ⟨⟨w2, M2⟩, e2, y2, q2⟩ := Ok_and z2 c2
  dsimp only at q2
  subst q2
  obtain ⟨R2, s2⟩ := lw8_gr R8 hW hS h6 y2
  have E2 : ∀ j, j < 157 → M2.2.1 185 j = σ j := fun j _ => by rw [y_fa (i := 185) y2.2.2 (by decide) h50 j, E.1.1.1]
  exact ⟨w2, M2, c1, e2, ⟨R2, e, M2.2.1 185, nx, sz, P, I, rc, Rr, w_C_congr (w_C_r C (lw8_len R8.1.1.1) y2.2.2) E2, w_E_r E y2.2.2 h9 rfl⟩, s2⟩
theorem lw9_prompts {L : Nat} {M : gM} {l1 l2 l3 : Int32} (R : lw9 L M) : ∃ w M2, F_X11_prompts (some 2) l1 l2 l3 M = some w ∧ F_X12_prompts (some 175) l1 l2 l3 M = some (w, M2) ∧ lw9 L M2 ∧ M2.2.1 0 = M.2.1 0 := by
  have G := R.1.2
  have k2 := G_k2 G
  refine lw9_rq R (S_X12_prompts R.1.1.1.1.1.1.2) (by decide) (by decide) (by decide) (by decide) (by decide) (fun e σ nx sz P I rc Rr C E X2 h6 hf f1 => ?_)
  have X := C.1.1.2
  have V := X.1.1.2.2
  have nn := s_Vn V
  have z1 : (1 : Int32).toInt = 1 := rfl
  have z40 : (40 : Int32).toInt = 40 := rfl
  have z0 : (0 : Int32).toInt = 0 := rfl
  have c0 := C_isKnownX (l1 := l1) (l2 := l2) k2 C.1.1.1 (G_r5 G) X.1.1
  by_cases k : s_iK σ l1 l2 = true
  · have kk := k
    unfold s_iK at kk
    simp only [Bool.and_eq_true] at kk
    obtain ⟨⟨kH, kT⟩, kn⟩ := kk
    obtain ⟨a, a1, a2, a3, _⟩ := s_iH_n V kH
    obtain ⟨b, b1, b2, b3, _⟩ := s_iT_n V kT
    rw [a3, b3] at kn
    have ix := k_ix a1 b1 (by omega) (by omega)
    by_cases k3 : 1 ≤ l3.toInt ∧ l3.toInt ≤ 40
    · obtain ⟨N, hN⟩ : ∃ N : Nat, l3.toInt = (N : Int) := ⟨l3.toInt.toNat, by omega⟩
      obtain ⟨rl, erl, J⟩ := C_inForce G C.2.2 h6 hf
      have J2 := J.2
      by_cases fc : (M.2.1 2 13).toInt < 0
      · have er : s_ru Rr (M.2.1 2 13) = none := if_pos fc
        rw [er] at J2
        have en : rl = none := by
          cases rl with
          | none => rfl
          | some j => exact False.elim J2
        subst en
        obtain ⟨_, ⟨⟨ks, j1, j2⟩, _⟩, ⟨r0, r1⟩, _⟩ := k_XE X.1.1
        have st := k_Xst X.1.1 a2 (t := b) (by omega)
        have kv := (s_kn1 V a2 (t := b) (by omega) kn).2
        have sc := i_clamp (x := s_st σ a b) (by omega)
        refine ⟨Int32.ofNat (s_pp σ a b N).2, ?_, ?_⟩
        · delta F_X11_prompts F_X11_prompts_b0
          rw [t_gO k2, Option.bind_some, c0, Option.bind_some, if_pos k, if_neg (by decide), if_neg (fun z => by have := i_lt z; omega), if_pos (Int32.le_iff_toInt_le.mpr (by omega)), erl, Option.bind_some, if_pos rfl, t_gR k2 (G_r5 G), Option.bind_some, t_gR ks r1, Option.bind_some, t_aI j2 (by omega) (by omega), Option.bind_some, i_cl ix, st.1]
          exact C_prompts_L54 G C.1.1.1 X.1.1 a1 b1 a2 b2 kn hN (by omega) g_fuel 0 (l5 := 0) (l6 := 0) sc.symm rfl rfl (Nat.zero_le _) (n_fu (by omega))
        · delta F_X12_prompts F_X12_prompts_b0
          rw [e_gO X2.1, Option.bind_some, E_isHeirX X2, Option.bind_some, if_pos kH, if_neg (by decide), E_isThingX X2, Option.bind_some, if_pos kT, if_neg (by decide), E_knowsOf X2 a1 b1 (by omega) (by omega), Option.bind_some, if_pos kn, if_neg (by decide), E_in (a := 1) (b := 40) rfl rfl, Option.bind_some, if_pos k3, if_neg (by decide), e_gI X2.1, Option.bind_some, f1, if_pos (Int32.lt_iff_toInt_lt.mpr (by omega))]
          exact E_prompts_L52 X2 a1 b1 a2 b2 kn hN (by omega) g_fuel 0 (l4 := 0) ⟨X2.1, y_rf0 _ _⟩ (fun x hx => absurd hx (Nat.not_lt_zero x)) rfl (Nat.zero_le _) (n_fu (by omega))
      · have er : s_ru Rr (M.2.1 2 13) = some (Rr (M.2.1 2 13).toNatClampNeg) := if_neg fc
        rw [er] at J2
        have en : ¬ rl = none := fun z => by
          subst z
          exact J2
        refine ⟨-3, ?_, ?_⟩
        · delta F_X11_prompts F_X11_prompts_b0
          rw [t_gO k2, Option.bind_some, c0, Option.bind_some, if_pos k, if_neg (by decide), if_neg (fun z => by have := i_lt z; omega), if_pos (Int32.le_iff_toInt_le.mpr (by omega)), erl, Option.bind_some, if_neg en]
        · delta F_X12_prompts F_X12_prompts_b0
          rw [e_gO X2.1, Option.bind_some, E_isHeirX X2, Option.bind_some, if_pos kH, if_neg (by decide), E_isThingX X2, Option.bind_some, if_pos kT, if_neg (by decide), E_knowsOf X2 a1 b1 (by omega) (by omega), Option.bind_some, if_pos kn, if_neg (by decide), E_in (a := 1) (b := 40) rfl rfl, Option.bind_some, if_pos k3, if_neg (by decide), e_gI X2.1, Option.bind_some, f1, if_neg (fun z => by have := i_lt z; omega)]
          exact Ok_s rfl
    · refine ⟨-1, ?_, ?_⟩
      · delta F_X11_prompts F_X11_prompts_b0 F_X11_prompts_b20
        rw [t_gO k2, Option.bind_some, c0, Option.bind_some, if_pos k, if_neg (by decide)]
        by_cases d : l3 < 1
        · rw [if_pos d]
        · have := i_nlt d
          rw [if_neg d, if_neg (fun z => by have := i_le z; omega)]
      · delta F_X12_prompts F_X12_prompts_b0 F_X12_prompts_b37
        rw [e_gO X2.1, Option.bind_some, E_isHeirX X2, Option.bind_some, if_pos kH, if_neg (by decide), E_isThingX X2, Option.bind_some, if_pos kT, if_neg (by decide), E_knowsOf X2 a1 b1 (by omega) (by omega), Option.bind_some, if_pos kn, if_neg (by decide), E_in (a := 1) (b := 40) rfl rfl, Option.bind_some, if_neg k3, if_pos rfl]
        exact Ok_s rfl
  · refine ⟨-1, ?_, ?_⟩
    · delta F_X11_prompts F_X11_prompts_b0 F_X11_prompts_b20
      rw [t_gO k2, Option.bind_some, c0, Option.bind_some, if_neg k, if_pos rfl]
    · delta F_X12_prompts F_X12_prompts_b0 F_X12_prompts_b37
      rw [e_gO X2.1, Option.bind_some, E_isHeirX X2, Option.bind_some]
      unfold s_iK at k
      by_cases kH : s_iH σ l1 = true
      · rw [if_pos kH, if_neg (by decide), E_isThingX X2, Option.bind_some]
        by_cases kT : s_iT σ l2 = true
        · obtain ⟨a, a1, a2, a3, _⟩ := s_iH_n V kH
          obtain ⟨b, b1, b2, b3, _⟩ := s_iT_n V kT
          rw [if_pos kT, if_neg (by decide), E_knowsOf X2 a1 b1 (by omega) (by omega), Option.bind_some]
          rw [kH, kT, a3, b3] at k
          rw [if_neg (show ¬ s_kn σ a b = true from k), if_pos rfl]
          exact Ok_s rfl
        · rw [if_neg kT, if_pos rfl]
          exact Ok_s rfl
      · rw [if_neg kH, if_pos rfl]
        exact Ok_s rfl
