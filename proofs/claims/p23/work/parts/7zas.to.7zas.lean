-- 7zas.likeliest
/-! LIKELIEST -/
def s_ts (σ : Nat → Int32) (t : Nat) (a : Int32) : Nat → Int32
  | 0 => 0
  | h + 1 => s_ts σ t a h + (if s_va σ h t = a then s_st σ h t else 0)
theorem ts_b {σ : Nat → Int32} {t : Nat} {a : Int32} (V : s_V σ) (ht : t < 7) : ∀ h, h ≤ hs_m σ → 0 ≤ (s_ts σ t a h).toInt ∧ (s_ts σ t a h).toInt ≤ 99 * h := by
  have nn := s_Vn V
  have z0 : (0 : Int32).toInt = 0 := rfl
  intro h
  induction h with
  | zero =>
    intro _
    have e : (s_ts σ t a 0).toInt = 0 := rfl
    rw [e]
    omega
  | succ h ih =>
    intro hh
    have i := ih (by omega)
    have b : 0 ≤ (if s_va σ h t = a then s_st σ h t else (0 : Int32)).toInt ∧ (if s_va σ h t = a then s_st σ h t else (0 : Int32)).toInt ≤ 99 := by
      split
      · rcases V.2.1 h t (by omega) ht with z | z
        · rw [z.2]; decide
        · omega
      · omega
    show 0 ≤ (s_ts σ t a h + (if s_va σ h t = a then s_st σ h t else 0)).toInt ∧ _
    have e : (s_ts σ t a (h + 1)).toInt = (s_ts σ t a h).toInt + (if s_va σ h t = a then s_st σ h t else (0 : Int32)).toInt := i_add (by omega) (by omega)
    show 0 ≤ (s_ts σ t a (h + 1)).toInt ∧ _
    omega
theorem C_strengthAs {M : gM} {s e : Nat} {σ : Nat → Int32} {l2 a : Int32} {t : Nat} (X : k_X M s e σ) (h2 : l2.toInt = (t : Int)) (ht : t < 7) (ha : 0 ≤ a.toInt) : F_X8_strengthAs (some s) (some e) l2 a M = some (s_ts σ t a (hs_m σ)) := by
  have nn := s_Vn X.2.2
  obtain ⟨⟨ke, ⟨e6, e7⟩, _⟩, ⟨⟨ks, j1, j2⟩, _⟩, ⟨r0, r1⟩, _⟩ := k_XE X
  have main : ∀ (n h : Nat) {l5 : Int32}, l5.toInt = (h : Int) → h ≤ hs_m σ → hs_m σ - h < n → F_X8_strengthAs_L6 M n (some s) (some e) l2 a (s_ts σ t a h) l5 = some (s_ts σ t a (hs_m σ)) := by
    intro n
    induction n with
    | zero => intro h l5 _ hh hn; omega
    | succ n ih =>
      intro h l5 h5 hh hn
      show F_X8_strengthAs_b6 (F_X8_strengthAs_L6 M n) M (some s) (some e) l2 a (s_ts σ t a h) l5 = _
      delta F_X8_strengthAs_b6 F_X8_strengthAs_b47
      have c0 := i_le_n h5 nn.2.1
      rw [t_gI ke, Option.bind_some, e7]
      by_cases c : hs_m σ ≤ h
      · have : h = hs_m σ := by omega
        subst this
        rw [if_pos (c0.mpr c)]
      · have ix := k_ix h5 h2 (by omega) ht
        have st := k_Xst X (h := h) (t := t) (by omega) ht
        have un : s_ts σ t a (h + 1) = s_ts σ t a h + (if s_va σ h t = a then s_st σ h t else 0) := rfl
        have ih' := ih (h + 1) (i_nx h5 (by omega)) (by omega) (by omega)
        rw [if_neg (mt c0.mp c), t_gR ks r0, Option.bind_some, t_aI j1 (by omega) (by omega), Option.bind_some, i_cl ix]
        by_cases k : s_kn σ h t = true
        · rw [st.2 k]
          by_cases d : s_va σ h t = a
          · rw [if_pos d] at un
            rw [if_pos d, t_gR ks r1, Option.bind_some, t_aI j2 (by omega) (by omega), Option.bind_some, i_cl ix, st.1, ← un]
            exact ih'
          · rw [if_neg d, Int32.add_zero] at un
            rw [if_neg d, ← un]
            exact ih'
        · have k0 := s_kn0 X.2.2 (h := h) (t := t) (by omega) ht (b_ff k)
          have na : ¬ s_va σ h t = a := fun z => by
            rw [k0.1] at z
            rw [← z] at ha
            exact absurd ha (by decide)
          rw [if_neg na, Int32.add_zero] at un
          by_cases d : M.2.1 (s + 1) (7 * h + t) = a
          · rw [if_pos d, t_gR ks r1, Option.bind_some, t_aI j2 (by omega) (by omega), Option.bind_some, i_cl ix, st.1, k0.2, Int32.add_zero, ← un]
            exact ih'
          · rw [if_neg d, ← un]
            exact ih'
  delta F_X8_strengthAs F_X8_strengthAs_b0
  exact main g_fuel 0 (l5 := 0) rfl (Nat.zero_le _) (n_fu (by omega))
/-- the best so far -/
def s_bk (σ : Nat → Int32) (t : Nat) : Nat → Int32 × Int32
  | 0 => (-1, 0)
  | a + 1 => if s_ts σ t (Int32.ofNat a) (hs_m σ) ≤ (s_bk σ t a).2 then s_bk σ t a else (Int32.ofNat a, s_ts σ t (Int32.ofNat a) (hs_m σ))
theorem bk_i {σ : Nat → Int32} {t : Nat} (V : s_V σ) (ht : t < 7) : ∀ a, a ≤ 10 → ((s_bk σ t a).1 = -1 ∧ (s_bk σ t a).2 = 0) ∨ (0 ≤ (s_bk σ t a).1.toInt ∧ 0 < (s_bk σ t a).2.toInt) := by
  intro a
  induction a with
  | zero => intro _; exact Or.inl ⟨rfl, rfl⟩
  | succ a ih =>
    intro ha
    have i := ih (by omega)
    have oa : (Int32.ofNat a).toInt = _ := i_ofNat (by omega)
    show ((if s_ts σ t (Int32.ofNat a) (hs_m σ) ≤ (s_bk σ t a).2 then s_bk σ t a else (Int32.ofNat a, s_ts σ t (Int32.ofNat a) (hs_m σ))).1 = -1 ∧ _) ∨ _
    by_cases c : s_ts σ t (Int32.ofNat a) (hs_m σ) ≤ (s_bk σ t a).2
    · have e : s_bk σ t (a + 1) = s_bk σ t a := if_pos c
      show ((s_bk σ t (a + 1)).1 = -1 ∧ (s_bk σ t (a + 1)).2 = 0) ∨ (0 ≤ (s_bk σ t (a + 1)).1.toInt ∧ 0 < (s_bk σ t (a + 1)).2.toInt)
      rw [e]
      exact i
    · have e : s_bk σ t (a + 1) = (Int32.ofNat a, s_ts σ t (Int32.ofNat a) (hs_m σ)) := if_neg c
      show ((s_bk σ t (a + 1)).1 = -1 ∧ (s_bk σ t (a + 1)).2 = 0) ∨ (0 ≤ (s_bk σ t (a + 1)).1.toInt ∧ 0 < (s_bk σ t (a + 1)).2.toInt)
      rw [e]
      have := i_nle c
      have z0 : (0 : Int32).toInt = 0 := rfl
      refine Or.inr ⟨by show 0 ≤ (Int32.ofNat a).toInt; omega, ?_⟩
      show 0 < (s_ts σ t (Int32.ofNat a) (hs_m σ)).toInt
      rcases i with i | i
      · rw [i.2] at this
        omega
      · omega
def s_bw (l2 : Int32) (q : Int32 × Int32) : Int32 := if q.1 = -1 then -2 else if l2 = 0 then q.1 else q.2
theorem C_likeliest_L27 {M : gM} {e : Nat} {σ : Nat → Int32} {l1 l2 : Int32} {t : Nat} (G : k_G M) (r11 : M.2.2.2 2 11 = some e) (X : k_X M 9 e σ) (h1 : l1.toInt = (t : Int)) (ht : t < 7) : ∀ (n a : Nat) {l5 : Int32}, l5.toInt = (a : Int) → a ≤ 10 → 10 - a < n → F_X11_likeliest_L27 M n (some 2) l1 l2 (s_bk σ t a).1 (s_bk σ t a).2 l5 = some (s_bw l2 (s_bk σ t 10)) := by
  have k2 := G_k2 G
  obtain ⟨_, ⟨⟨ks, _⟩, _⟩, _⟩ := k_XE X
  have z9 : (9 : Int32).toInt = 9 := rfl
  intro n
  induction n with
  | zero => intro a l5 _ ha hn; omega
  | succ n ih =>
    intro a l5 h5 ha hn
    show F_X11_likeliest_b27 (F_X11_likeliest_L27 M n) M (some 2) l1 l2 (s_bk σ t a).1 (s_bk σ t a).2 l5 = _
    delta F_X11_likeliest_b27 F_X11_likeliest_b64
    by_cases c : (9 : Int32) < l5
    · have := i_lt c
      have ea : a = 10 := by omega
      subst ea
      rw [if_pos c]
      unfold s_bw
      by_cases d : (s_bk σ t 10).1 = -1
      · rw [if_pos d, if_pos d]
      · rw [if_neg d, if_neg d]
        by_cases d2 : l2 = 0
        · rw [if_pos d2, if_pos d2]
        · rw [if_neg d2, if_neg d2]
    · have := i_nlt c
      have el : l5 = Int32.ofNat a := i_of h5 (by omega)
      rw [if_neg c, t_gR k2 (G_r5 G), Option.bind_some, t_gR k2 r11, Option.bind_some, t_gO ks, Option.bind_some, C_strengthAs X h1 ht (by omega), Option.bind_some]
      have ih' := ih (a + 1) (i_nx h5 (by omega)) (by omega) (by omega)
      have un : s_bk σ t (a + 1) = if s_ts σ t (Int32.ofNat a) (hs_m σ) ≤ (s_bk σ t a).2 then s_bk σ t a else (Int32.ofNat a, s_ts σ t (Int32.ofNat a) (hs_m σ)) := rfl
      rw [← el] at un
      by_cases d : s_ts σ t l5 (hs_m σ) ≤ (s_bk σ t a).2
      · rw [if_pos d] at un
        rw [un] at ih'
        rw [if_pos d]
        exact ih'
      · rw [if_neg d] at un
        rw [un] at ih'
        rw [if_neg d]
        exact ih'
theorem E_likeliest_L43 {M : gM} {σ : Nat → Int32} {l1 l2 l3 l4 l5 : Int32} {t : Nat} {k30 : Option Nat → Int32 → Int32 → Int32 → Int32 → Int32 → Option Int32} {w : Option Int32} (X : e_V M σ) (h1 : l1.toInt = (t : Int)) (ht : t < 7)
    (hk : (if s_ts σ t l5 (hs_m σ) = 0 then k30 (some 175) l1 l2 l3 l4 (l5 + 1) else if l4 < s_ts σ t l5 (hs_m σ) then k30 (some 175) l1 l2 l5 (s_ts σ t l5 (hs_m σ)) (l5 + 1) else k30 (some 175) l1 l2 l3 l4 (l5 + 1)) = w) : ∀ (n h : Nat) {l7 : Int32}, l7.toInt = (h : Int) → h ≤ hs_m σ → hs_m σ - h < n → F_X12_likeliest_L43 k30 M n (some 175) l1 l2 l3 l4 l5 (s_ts σ t l5 h) l7 = w := by
  have nn := s_Vn X.2.2
  intro n
  induction n with
  | zero => intro h l7 _ hh hn; omega
  | succ n ih =>
    intro h l7 h7 hh hn
    show F_X12_likeliest_b43 k30 (F_X12_likeliest_L43 k30 M n) M (some 175) l1 l2 l3 l4 l5 (s_ts σ t l5 h) l7 = _
    delta F_X12_likeliest_b43 F_X12_likeliest_b79 F_X12_likeliest_b110
    rw [e_sd X (k := 2) rfl (by decide)]
    have c0 := i_le_n h7 nn.2.1
    by_cases c : hs_m σ ≤ h
    · have : h = hs_m σ := by omega
      subst this
      rw [if_pos (c0.mpr c)]
      exact hk
    · have un : s_ts σ t l5 (h + 1) = s_ts σ t l5 h + (if s_va σ h t = l5 then s_st σ h t else 0) := rfl
      have ih' := ih (h + 1) (i_nx h7 (by omega)) (by omega) (by omega)
      rw [if_neg (mt c0.mp c), e_gO X.1, Option.bind_some, E_valueOf X h7 h1 (by omega) ht, Option.bind_some]
      by_cases d : s_va σ h t = l5
      · rw [if_pos d] at un
        rw [if_pos d, E_strengthOf X h7 h1 (by omega) ht, Option.bind_some, ← un]
        exact ih'
      · rw [if_neg d] at un
        rw [if_neg d, ← un]
        exact ih'
theorem E_likeliest_L30 {M : gM} {σ : Nat → Int32} {l1 l2 : Int32} {t : Nat} (X : e_V M σ) (h1 : l1.toInt = (t : Int)) (ht : t < 7) : ∀ (n a : Nat) {l3 l4 l5 : Int32}, (l3 = if (s_bk σ t a).1 = -1 then -2 else (s_bk σ t a).1) → (l4 = if (s_bk σ t a).1 = -1 then -2 else (s_bk σ t a).2) → l5.toInt = (a : Int) → a ≤ 10 → 10 - a < n → F_X12_likeliest_L30 M n (some 175) l1 l2 l3 l4 l5 = some (s_bw l2 (s_bk σ t 10)) := by
  have V := X.2.2
  have nn := s_Vn V
  have z10 : (10 : Int32).toInt = 10 := rfl
  have z0 : (0 : Int32).toInt = 0 := rfl
  have zm : (-2 : Int32).toInt = -2 := rfl
  intro n
  induction n with
  | zero => intro a l3 l4 l5 _ _ _ ha hn; omega
  | succ n ih =>
    intro a l3 l4 l5 h3 h4 h5 ha hn
    show F_X12_likeliest_b30 (F_X12_likeliest_L30 M n) M (some 175) l1 l2 l3 l4 l5 = _
    delta F_X12_likeliest_b30
    by_cases c : (10 : Int32) ≤ l5
    · have := i_le c
      have ea : a = 10 := by omega
      subst ea
      rw [if_pos c, h3, h4]
      unfold s_bw
      by_cases d : (s_bk σ t 10).1 = -1
      · rw [if_pos d, if_pos d, if_pos d]
        split <;> rfl
      · rw [if_neg d, if_neg d, if_neg d]
        by_cases d2 : l2 = 0
        · rw [if_pos d2, if_pos d2]
        · rw [if_neg d2, if_neg d2]
    · have := i_nle c
      have el : l5 = Int32.ofNat a := i_of h5 (by omega)
      rw [if_neg c]
      refine E_likeliest_L43 (k30 := F_X12_likeliest_L30 M n) X h1 ht ?_ g_fuel 0 (l7 := 0) rfl (Nat.zero_le _) (n_fu (by omega))
      have un : s_bk σ t (a + 1) = if s_ts σ t (Int32.ofNat a) (hs_m σ) ≤ (s_bk σ t a).2 then s_bk σ t a else (Int32.ofNat a, s_ts σ t (Int32.ofNat a) (hs_m σ)) := rfl
      rw [← el] at un
      have bi := bk_i V ht a (by omega)
      have b := ts_b (σ := σ) (t := t) (a := l5) V ht _ (Nat.le_refl _)
      have h5' := i_nx h5 (by omega)
      have nz : ¬ s_ts σ t l5 (hs_m σ) = 0 → 0 < (s_ts σ t l5 (hs_m σ)).toInt := fun z => by
        have : (s_ts σ t l5 (hs_m σ)).toInt ≠ 0 := fun y => z (Int32.toInt_inj.mp (by omega))
        omega
      by_cases d : s_ts σ t l5 (hs_m σ) ≤ (s_bk σ t a).2
      · have dl := i_le d
        rw [if_pos d] at un
        have go : F_X12_likeliest_L30 M n (some 175) l1 l2 l3 l4 (l5 + 1) = some (s_bw l2 (s_bk σ t 10)) := ih (a + 1) (by rw [un]; exact h3) (by rw [un]; exact h4) h5' (by omega) (by omega)
        by_cases z : s_ts σ t l5 (hs_m σ) = 0
        · rw [if_pos z]
          exact go
        · have p := nz z
          rw [if_neg z, if_neg (fun y => ?_)]
          · exact go
          · have y := i_lt y
            rcases bi with bi | bi
            · rw [bi.2] at dl
              omega
            · rw [h4, if_neg (fun q => by rw [q] at bi; exact absurd bi.1 (by decide))] at y
              omega
      · have dl := i_nle d
        rw [if_neg d] at un
        have z : ¬ s_ts σ t l5 (hs_m σ) = 0 := fun y => by
          rw [y] at dl
          rcases bi with bi | bi
          · rw [bi.2] at dl
            omega
          · omega
        have p := nz z
        have nm : ¬ l5 = -1 := fun y => by rw [y] at h5; have : (-1 : Int32).toInt = -1 := rfl; omega
        have lt : l4 < s_ts σ t l5 (hs_m σ) := Int32.lt_iff_toInt_lt.mpr (by
          rw [h4]
          split
          · omega
          · exact dl)
        rw [if_neg z, if_pos lt]
        exact ih (a + 1) (by rw [un]; exact (if_neg nm).symm) (by rw [un]; exact (if_neg nm).symm) h5' (by omega) (by omega)
theorem lw9_likeliest {L : Nat} {M : gM} {l1 l2 : Int32} (R : lw9 L M) : ∃ w, F_X11_likeliest (some 2) l1 l2 M = some w ∧ F_X12_likeliest (some 175) l1 l2 M = some w := by
  have G := R.1.2
  have k2 := G_k2 G
  refine lw9_look R (fun e σ r11 X Y => ?_)
  have V := Y.2.2
  have nn := s_Vn V
  have z0 : (0 : Int32).toInt = 0 := rfl
  have z1 : (1 : Int32).toInt = 1 := rfl
  by_cases kT : s_iT σ l1 = true
  · obtain ⟨a, a1, a2, a3, _⟩ := s_iT_n V kT
    by_cases c : 0 ≤ l2.toInt ∧ l2.toInt ≤ 1
    · refine ⟨s_bw l2 (s_bk σ a 10), ?_, ?_⟩
      · delta F_X11_likeliest F_X11_likeliest_b0
        rw [t_gO k2, Option.bind_some, C_isThingX k2 r11 X.1.1, Option.bind_some, if_pos kT, if_neg (by decide), if_neg (fun z => by have := i_lt z; omega), if_pos (Int32.le_iff_toInt_le.mpr (by omega))]
        exact C_likeliest_L27 G r11 X.1.1 a1 (by omega) g_fuel 0 (l5 := 0) rfl (Nat.zero_le _) (n_fu (by omega))
      · delta F_X12_likeliest F_X12_likeliest_b0
        rw [e_gO Y.1, Option.bind_some, E_isThingX Y, Option.bind_some, if_pos kT, if_neg (by decide), E_in (a := 0) (b := 1) rfl rfl, Option.bind_some, if_pos c, if_neg (by decide)]
        exact E_likeliest_L30 Y a1 (by omega) g_fuel 0 (l5 := 0) rfl rfl rfl (Nat.zero_le _) (n_fu (by omega))
    · refine ⟨-1, ?_, ?_⟩
      · delta F_X11_likeliest F_X11_likeliest_b0 F_X11_likeliest_b17
        rw [t_gO k2, Option.bind_some, C_isThingX k2 r11 X.1.1, Option.bind_some, if_pos kT, if_neg (by decide)]
        by_cases d : l2 < 0
        · rw [if_pos d]
        · have := i_nlt d
          rw [if_neg d, if_neg (fun z => by have := i_le z; omega)]
      · delta F_X12_likeliest F_X12_likeliest_b0 F_X12_likeliest_b18
        rw [e_gO Y.1, Option.bind_some, E_isThingX Y, Option.bind_some, if_pos kT, if_neg (by decide), E_in (a := 0) (b := 1) rfl rfl, Option.bind_some, if_neg c, if_pos rfl]
  · refine ⟨-1, ?_, ?_⟩
    · delta F_X11_likeliest F_X11_likeliest_b0 F_X11_likeliest_b17
      rw [t_gO k2, Option.bind_some, C_isThingX k2 r11 X.1.1, Option.bind_some, if_neg kT, if_pos rfl]
    · delta F_X12_likeliest F_X12_likeliest_b0 F_X12_likeliest_b18
      rw [e_gO Y.1, Option.bind_some, E_isThingX Y, Option.bind_some, if_neg kT, if_pos rfl]
