/-! a YEAR, when all losses are known: of the cells -/
def s_f1 (σ : Nat → Int32) (L : Nat → Nat → Int32) (h t : Nat) : Nat → Int32 := if s_kn σ h t = true then s_kw σ h t (s_va σ h t) (s_st σ h t - L h t) else σ
def s_fh (σ : Nat → Int32) (L : Nat → Nat → Int32) (h : Nat) : Nat → Nat → Int32
  | 0 => σ
  | t + 1 => s_f1 (s_fh σ L h t) L h t
def s_fo (σ : Nat → Int32) (L : Nat → Nat → Int32) : Nat → Nat → Int32
  | 0 => σ
  | h + 1 => s_fh (s_fo σ L h) L h (hs_n σ)
def s_a1 (σ : Nat → Int32) (h : Nat) : Nat → Int32 := hs_set σ (38 + 2 * h) (if σ (38 + 2 * h) + 1 < 99 then σ (38 + 2 * h) + 1 else 99)
def s_ag (σ : Nat → Int32) : Nat → Nat → Int32
  | 0 => σ
  | h + 1 => s_a1 (s_ag σ h) h
def s_kc (σ : Nat → Int32) (t : Nat) : Bool := decide ((σ (13 + 4 * t)).toInt < 0) && s_hs σ t == 0
def s_ks (σ : Nat → Int32) : Nat → Int32 × (Nat → Int32)
  | 0 => (0, σ)
  | t + 1 => if s_kc (s_ks σ t).2 t = true then ((s_ks σ t).1 + 1, hs_set (s_ks σ t).2 (13 + 4 * t) ((s_ks σ t).2 4)) else s_ks σ t
def s_p3 (σ : Nat → Int32) (L : Nat → Nat → Int32) : Int32 × (Nat → Int32) := s_ks (s_ag (s_fo σ L (hs_m σ)) (hs_m σ)) (hs_n σ)
def s_ps (σ : Nat → Int32) (L : Nat → Nat → Int32) : Int32 × (Nat → Int32) := ((s_p3 σ L).1, hs_set (s_p3 σ L).2 4 ((s_p3 σ L).2 4 + 1))
/-- losses that can be -/
def s_LV (L : Nat → Nat → Int32) : Prop := ∀ h t, 0 ≤ (L h t).toInt ∧ (L h t).toInt ≤ 99
theorem f1_lo {σ : Nat → Int32} {L : Nat → Nat → Int32} {h t j : Nat} (hj : j < 59) : s_f1 σ L h t j = σ j := by
  unfold s_f1
  by_cases c : s_kn σ h t = true
  · rw [if_pos c, kw_lo hj]
  · rw [if_neg c]
theorem fh_lo {σ : Nat → Int32} {L : Nat → Nat → Int32} {h j : Nat} (hj : j < 59) : ∀ k, s_fh σ L h k j = σ j := by
  intro k
  induction k with
  | zero => rfl
  | succ k ih => exact (f1_lo hj).trans ih
theorem fo_lo {σ : Nat → Int32} {L : Nat → Nat → Int32} {j : Nat} (hj : j < 59) : ∀ k, s_fo σ L k j = σ j := by
  intro k
  induction k with
  | zero => rfl
  | succ k ih => exact (fh_lo hj _).trans ih
theorem nm_of {σ σ' : Nat → Int32} (h : ∀ j, j < 3 → σ' j = σ j) : hs_n σ' = hs_n σ ∧ hs_m σ' = hs_m σ := by
  unfold hs_n hs_m
  rw [h 1 (by decide), h 2 (by decide)]
  exact ⟨rfl, rfl⟩
theorem f1_V {σ : Nat → Int32} {L : Nat → Nat → Int32} {h t : Nat} (V : s_V σ) (LV : s_LV L) (hh : h < hs_m σ) (ht : t < 7) : s_V (s_f1 σ L h t) := by
  unfold s_f1
  by_cases c : s_kn σ h t = true
  · have kv := s_kn1 V hh ht c
    have l := LV h t
    have e := i_sub (x := s_st σ h t) (y := L h t) (by omega) (by omega)
    rw [if_pos c]
    exact kw_V V ht (by omega) (fun _ => kv.1)
  · rw [if_neg c]
    exact V
theorem fh_V {σ : Nat → Int32} {L : Nat → Nat → Int32} {h : Nat} (V : s_V σ) (LV : s_LV L) (hh : h < hs_m σ) : ∀ k, k ≤ 7 → s_V (s_fh σ L h k) := by
  intro k
  induction k with
  | zero => intro _; exact V
  | succ k ih =>
    intro hk
    refine f1_V (ih (by omega)) LV ?_ (by omega)
    rw [(nm_of (fun j hj => fh_lo (by omega) k)).2]
    exact hh
theorem fo_V {σ : Nat → Int32} {L : Nat → Nat → Int32} (V : s_V σ) (LV : s_LV L) : ∀ k, k ≤ hs_m σ → s_V (s_fo σ L k) := by
  intro k
  induction k with
  | zero => intro _; exact V
  | succ k ih =>
    intro hk
    refine fh_V (ih (by omega)) LV ?_ _ (s_Vn V).1.2
    rw [(nm_of (fun j hj => fo_lo (by omega) k)).2]
    exact hk
/-- what has not been reached yet -/
theorem fh_ne {σ : Nat → Int32} {L : Nat → Nat → Int32} {h h' t' : Nat} (ht' : t' < 7) : ∀ k, k ≤ 7 → (h' ≠ h ∨ k ≤ t') → s_va (s_fh σ L h k) h' t' = s_va σ h' t' ∧ s_st (s_fh σ L h k) h' t' = s_st σ h' t' := by
  intro k
  induction k with
  | zero => intro _ _; exact ⟨rfl, rfl⟩
  | succ k ih =>
    intro hk hn
    have ih := ih (by omega) (by omega)
    show s_va (s_f1 (s_fh σ L h k) L h k) h' t' = _ ∧ s_st (s_f1 (s_fh σ L h k) L h k) h' t' = _
    unfold s_f1
    by_cases c : s_kn (s_fh σ L h k) h k = true
    · rw [if_pos c]
      have := kw_ne (σ := s_fh σ L h k) (h := h) (t := k) (h' := h') (t' := t') (a := s_va (s_fh σ L h k) h k) (v := s_st (s_fh σ L h k) h k - L h k) (by omega) ht' (by omega)
      exact ⟨this.1.trans ih.1, this.2.trans ih.2⟩
    · rw [if_neg c]
      exact ih
theorem fo_ne {σ : Nat → Int32} {L : Nat → Nat → Int32} {h' t' : Nat} (ht' : t' < 7) (hn7 : hs_n σ ≤ 7) : ∀ k, k ≤ h' → s_va (s_fo σ L k) h' t' = s_va σ h' t' ∧ s_st (s_fo σ L k) h' t' = s_st σ h' t' := by
  intro k
  induction k with
  | zero => intro _; exact ⟨rfl, rfl⟩
  | succ k ih =>
    intro hk
    have ih := ih (by omega)
    have := fh_ne (σ := s_fo σ L k) (L := L) (h := k) (h' := h') ht' (hs_n σ) hn7 (Or.inl (by omega))
    exact ⟨this.1.trans ih.1, this.2.trans ih.2⟩
theorem kn_of {σ σ' : Nat → Int32} {h t : Nat} (e : s_va σ' h t = s_va σ h t) : s_kn σ' h t = s_kn σ h t := by
  unfold s_kn
  rw [e]
theorem kw_self {σ : Nat → Int32} {h t : Nat} {a : Int32} (h1 : s_va σ h t = -1) (h2 : s_st σ h t = 0) : s_kw σ h t a 0 = σ := by
  funext j
  unfold s_kw
  by_cases c : j = 60 + 14 * h + 2 * t
  · subst c
    rw [hs_se]
    exact h2.symm
  · rw [hs_sn c]
    by_cases c2 : j = 59 + 14 * h + 2 * t
    · subst c2
      rw [hs_se]
      exact h1.symm
    · rw [hs_sn c2]
theorem kw_le {σ : Nat → Int32} {h t : Nat} {a v : Int32} (c : v ≤ 0) : s_kw σ h t a v = s_kw σ h t 0 0 := by
  unfold s_kw
  rw [if_pos c, if_pos c, if_pos (by decide), if_pos (by decide)]
/-! the class -/
/-- the years' own things -/
def k_Y (M : gM) : Prop := ((g_k M 4 = (10, 0) ∧ g_k M 5 = (20, 49)) ∧ g_k M 6 = (5, 0)) ∧ (M.2.2.2 4 0 = some 5 ∧ M.2.2.2 4 1 = some 6)
theorem k_Y_m {M M' : gM} (Y : k_Y M) (h1 : M'.1 = M.1) (h2 : M'.2.2.2 = M.2.2.2) : k_Y M' := by
  have hk : ∀ i, g_k M' i = g_k M i := fun i => q_k_of h1
  unfold k_Y at Y ⊢
  simp only [hk, h2]
  exact Y
/-- the losses are in place -/
def k_Ls (M : gM) (σ : Nat → Int32) (L : Nat → Nat → Int32) : Prop := ∀ h t, h < hs_m σ → t < hs_n σ → M.2.1 5 (7 * h + t) = if s_kn σ h t = true then L h t else 0
def k_FC (M0 : gM) (s e : Nat) (M : gM) (σ : Nat → Int32) : Prop := k_Fs s M0 M ∧ k_X M s e σ
theorem C_fade_cell {M0 M : gM} {s e h j : Nat} {σ0 σ : Nat → Int32} {L : Nat → Nat → Int32} {l3 l4 : Int32} {β : Type} {f : Option Nat → gM → Option β} {P : β → Prop} (hs5 : 5 < s) (hd : e + 5 < s ∨ s + 4 < e) (Y : k_Y M0) (LV : s_LV L) (LS : k_Ls M0 σ0 L) (hn : hs_n σ = hs_n σ0 ∧ hs_m σ = hs_m σ0) (hva : s_va σ h j = s_va σ0 h j) (C : k_FC M0 s e M σ) (h3 : l3.toInt = (h : Int)) (h4 : l4.toInt = (j : Int)) (hh : h < hs_m σ) (hj : j < hs_n σ)
    (g : ∀ M', k_FC M0 s e M' (s_f1 σ L h j) → Ok (f (some s) M') P) : Ok ((gR 10 M (some 4) 0).bind fun v2 => (aI 20 M v2 ((l3 * (7 : Int32)) + l4)).bind fun v3 => (gR 8 M (some s) 1).bind fun v4 => (aI 20 M v4 ((l3 * (7 : Int32)) + l4)).bind fun v5 => if v5 ≤ v3 then ((gO 8 M (some s)).bind fun i6 => (F_X8_forget (some i6) l3 l4 M).bind fun M7 => f (some i6) M7) else ((gR 8 M (some s) 1).bind fun v8 => (aI 20 M v8 ((l3 * (7 : Int32)) + l4)).bind fun v9 => (gR 10 M (some 4) 0).bind fun v10 => (aI 20 M v10 ((l3 * (7 : Int32)) + l4)).bind fun v11 => (sI M v8 ((l3 * (7 : Int32)) + l4) (v9 - v11)).bind fun M12 => f (some s) M12)) P := by
  obtain ⟨F, X⟩ := C
  obtain ⟨⟨ke, ⟨e6, e7⟩, _⟩, ⟨⟨ks, k1, k2⟩, k3, k4⟩, ⟨r0, r1⟩, r2, r3⟩ := k_XE X
  have nn := s_Vn X.2.2
  have ix := k_ix h3 h4 (by omega) (by omega)
  obtain ⟨⟨⟨y4, y5⟩, y6⟩, y0, y1⟩ := k_Y_m Y F.1.1.1 F.1.2
  have el : M.2.1 5 (7 * h + j) = if s_kn σ h j = true then L h j else 0 := by
    rw [F.2 5 (by omega), kn_of hva]
    exact LS h j (by omega) (by omega)
  have st := (k_Xst X hh (t := j) (by omega)).1
  refine x_gR y4 y0 (x_aI y5 ix (by omega) el ?_)
  refine x_gR ks r1 (x_aI k2 ix (by omega) st ?_)
  have z0 : (0 : Int32).toInt = 0 := rfl
  unfold s_f1 at g
  by_cases k : s_kn σ h j = true
  · have kv := s_kn1 X.2.2 hh (t := j) (by omega) k
    have l := LV h j
    have es := i_sub (x := s_st σ h j) (y := L h j) (by omega) (by omega)
    rw [if_pos k]
    rw [if_pos k] at g
    by_cases c : s_st σ h j ≤ L h j
    · have c' := i_le c
      rw [if_pos c]
      refine x_gO ks ?_
      refine Ok_b (C_forgetX (a := 0) X hd h3 h4 hh (by omega)) (fun M7 z => ?_)
      refine g M7 ⟨k_Fs_tr F z.1, ?_⟩
      rw [kw_le (Int32.le_iff_toInt_le.mpr (by omega))]
      exact z.2
    · have c' := i_nle c
      rw [if_neg c]
      have el2 : M.2.1 5 (7 * h + j) = L h j := by rw [el, if_pos k]
      refine x_gR ks r1 (x_aI k2 ix (by omega) st ?_)
      refine x_gR y4 y0 (x_aI y5 ix (by omega) el2 ?_)
      refine x_sI k2 ix (by omega) ?_
      have f1 : k_Fs s M (mI M (s + 2) (7 * h + j) (s_st σ h j - L h j)) := k_Fs_up (by omega)
      refine g _ ⟨k_Fs_tr F f1, k_X_cell (w := 0) X hd hh (by omega) f1 (fun i k hi hk => mI_ne (by omega)) (fun i k hi => mI_ne (by omega)) ?_ (fun _ => ⟨?_, kv.1⟩) (by omega)⟩
      · rw [y_mI1, if_neg (fun z => by have := i_le z; omega)]
      · rw [mI_ne (by omega)]
        exact (k_Xst X hh (t := j) (by omega)).2 k
  · have k0 := s_kn0 X.2.2 hh (t := j) (by omega) (b_ff k)
    rw [if_neg k]
    rw [if_neg k] at g
    rw [if_pos (show s_st σ h j ≤ 0 by rw [k0.2]; decide)]
    refine x_gO ks ?_
    refine Ok_b (C_forgetX (a := 0) X hd h3 h4 hh (by omega)) (fun M7 z => ?_)
    refine g M7 ⟨k_Fs_tr F z.1, ?_⟩
    have e := z.2
    rw [kw_self k0.1 k0.2] at e
    exact e
theorem C_fade_L13 {M0 : gM} {s e h : Nat} {σ0 : Nat → Int32} {L : Nat → Nat → Int32} {l3 : Int32} {k2 : Option Nat → Option Nat → Option Nat → Int32 → gM → Option gM} {P : gM → Prop} (hs5 : 5 < s) (hd : e + 5 < s ∨ s + 4 < e) (Y : k_Y M0) (V : s_V σ0) (LV : s_LV L) (LS : k_Ls M0 σ0 L) (h3 : l3.toInt = (h : Int)) (hh : h < hs_m σ0)
    (g : ∀ M', k_FC M0 s e M' (s_fo σ0 L (h + 1)) → Ok (k2 (some 4) (some e) (some s) (l3 + 1) M') P) : ∀ (n j : Nat) {l4 : Int32} {M : gM}, k_FC M0 s e M (s_fh (s_fo σ0 L h) L h j) → l4.toInt = (j : Int) → j ≤ hs_n σ0 → hs_n σ0 - j < n → Ok (F_X10_fadeAll_L13 k2 n (some 4) (some e) (some s) l3 l4 M) P := by
  intro n
  induction n with
  | zero => intro j l4 M C h4 hj hn; omega
  | succ n ih =>
    intro j l4 M C h4 hj hn
    have nn0 := s_Vn V
    have en : hs_n (s_fh (s_fo σ0 L h) L h j) = hs_n σ0 ∧ hs_m (s_fh (s_fo σ0 L h) L h j) = hs_m σ0 := nm_of (fun i hi => (fh_lo (by omega) j).trans (fo_lo (by omega) h))
    obtain ⟨⟨ke, ⟨e6, e7⟩, _⟩, _⟩ := k_XE C.2
    have nn := s_Vn C.2.2.2
    show Ok (F_X10_fadeAll_b13 k2 (F_X10_fadeAll_L13 k2 n) (some 4) (some e) (some s) l3 l4 M) P
    delta F_X10_fadeAll_b13 F_X10_fadeAll_b75
    refine x_gI ke e6 ?_
    have c0 := i_le_n h4 nn.1.1
    by_cases c : hs_n σ0 ≤ j
    · have : j = hs_n σ0 := by omega
      subst this
      rw [if_pos (c0.mpr (by omega))]
      exact g M C
    · rw [if_neg (fun z => by have := c0.mp z; omega)]
      have va : s_va (s_fh (s_fo σ0 L h) L h j) h j = s_va σ0 h j := (fh_ne (by omega) j (by omega) (Or.inr (Nat.le_refl _))).1.trans (fo_ne (by omega) nn0.1.2 h (Nat.le_refl _)).1
      refine C_fade_cell (f := fun s' M' => F_X10_fadeAll_L13 k2 n (some 4) (some e) s' l3 (l4 + 1) M') hs5 hd Y LV LS en va C h3 h4 (by omega) (by omega) (fun M' C' => ?_)
      exact ih (j + 1) C' (i_nx h4 (by omega)) (by omega) (by omega)
theorem C_fade_L2 {M0 : gM} {s e : Nat} {σ0 : Nat → Int32} {L : Nat → Nat → Int32} (hs5 : 5 < s) (hd : e + 5 < s ∨ s + 4 < e) (Y : k_Y M0) (V : s_V σ0) (LV : s_LV L) (LS : k_Ls M0 σ0 L) : ∀ (n h : Nat) {l3 : Int32} {M : gM}, k_FC M0 s e M (s_fo σ0 L h) → l3.toInt = (h : Int) → h ≤ hs_m σ0 → hs_m σ0 - h < n → Ok (F_X10_fadeAll_L2 n (some 4) (some e) (some s) l3 M) (fun M' => k_FC M0 s e M' (s_fo σ0 L (hs_m σ0))) := by
  intro n
  induction n with
  | zero => intro h l3 M C h3 hh hn; omega
  | succ n ih =>
    intro h l3 M C h3 hh hn
    have nn0 := s_Vn V
    have en : hs_n (s_fo σ0 L h) = hs_n σ0 ∧ hs_m (s_fo σ0 L h) = hs_m σ0 := nm_of (fun i hi => fo_lo (by omega) h)
    obtain ⟨⟨ke, ⟨e6, e7⟩, _⟩, _⟩ := k_XE C.2
    have nn := s_Vn C.2.2.2
    show Ok (F_X10_fadeAll_b2 (F_X10_fadeAll_L2 n) (some 4) (some e) (some s) l3 M) _
    delta F_X10_fadeAll_b2
    refine x_gI ke e7 ?_
    have c0 := i_le_n h3 nn.2.1
    by_cases c : hs_m σ0 ≤ h
    · have : h = hs_m σ0 := by omega
      subst this
      rw [if_pos (c0.mpr (by omega))]
      exact Ok_s C
    · rw [if_neg (fun z => by have := c0.mp z; omega)]
      exact C_fade_L13 hs5 hd Y V LV LS h3 (by omega) (fun M' C' => ih (h + 1) C' (i_nx h3 (by omega)) (by omega) (by omega)) g_fuel 0 (l4 := 0) C rfl (Nat.zero_le _) (n_fu (by omega))
theorem a1_o {σ : Nat → Int32} {h j : Nat} (hj : j ≠ 38 + 2 * h) : s_a1 σ h j = σ j := hs_sn hj
theorem a1_r {x : Int32} (h : 0 ≤ x.toInt ∧ x.toInt ≤ 99) : 0 ≤ (if x + 1 < 99 then x + 1 else (99 : Int32)).toInt ∧ (if x + 1 < 99 then x + 1 else (99 : Int32)).toInt ≤ 99 := by
  have e := i_addc (x := x) (c := (1 : Int32)) (n := 1) rfl (by omega) (by omega)
  have e' : (x + 1).toInt = x.toInt + 1 := e
  have z : (99 : Int32).toInt = 99 := rfl
  by_cases c : x + 1 < 99
  · have := i_lt c
    rw [if_pos c]
    omega
  · rw [if_neg c]
    decide
theorem a1_V {σ : Nat → Int32} {h : Nat} (V : s_V σ) (hh : h < hs_m σ) : s_V (s_a1 σ h) := by
  have nn := s_Vn V
  obtain ⟨V1, V2, V3, V4⟩ := V
  have o : ∀ j, (∀ k, k < 7 → j ≠ 38 + 2 * k) → s_a1 σ h j = σ j := fun j hj => a1_o (hj h (by omega))
  refine ⟨by rw [o 1 (fun k _ => by omega), o 2 (fun k _ => by omega)]; exact V1, fun h' t' hh' ht' => ?_, fun t' ht' => ?_, fun h' hh' => ?_⟩
  · rw [o 2 (fun k _ => by omega)] at hh'
    unfold s_va s_st
    rw [a1_o (by omega), a1_o (by omega)]
    exact V2 h' t' hh' ht'
  · rw [o 1 (fun k _ => by omega)] at ht'
    rw [a1_o (by omega), a1_o (by omega), a1_o (by omega), a1_o (by omega)]
    exact V3 t' ht'
  · rw [o 2 (fun k _ => by omega)] at hh'
    rw [a1_o (j := 39 + 2 * h') (by omega)]
    refine ⟨?_, (V4 h' hh').2⟩
    by_cases e : h' = h
    · subst e
      unfold s_a1
      rw [hs_se]
      exact a1_r (V4 h' hh').1
    · rw [a1_o (by omega)]
      exact (V4 h' hh').1
