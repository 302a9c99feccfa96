/-! a YEAR of the reference -/
def s_mx (σ : Nat → Int32) (L : Nat → Nat → Int32) : Nat → Nat → Int32
  | 0 => σ
  | h + 1 => s_a1 (s_fh (s_mx σ L h) L h (hs_n σ)) h
theorem set_comm {σ : Nat → Int32} {i j : Nat} {a b : Int32} (h : i ≠ j) : hs_set (hs_set σ i a) j b = hs_set (hs_set σ j b) i a := by
  funext k
  unfold hs_set
  by_cases c1 : k = j
  · rw [if_pos c1, if_neg (fun z => h (z.symm.trans c1)), if_pos c1]
  · rw [if_neg c1, if_neg c1]
theorem a1_f1 {σ : Nat → Int32} {L : Nat → Nat → Int32} {h t k : Nat} (hk : k < 7) : s_f1 (s_a1 σ k) L h t = s_a1 (s_f1 σ L h t) k := by
  have v : s_va (s_a1 σ k) h t = s_va σ h t := a1_o (by omega)
  have s : s_st (s_a1 σ k) h t = s_st σ h t := a1_o (by omega)
  unfold s_f1
  rw [kn_of v, v, s]
  by_cases c : s_kn σ h t = true
  · rw [if_pos c, if_pos c]
    have e : s_kw σ h t (s_va σ h t) (s_st σ h t - L h t) (38 + 2 * k) = σ (38 + 2 * k) := kw_lo (by omega)
    unfold s_a1
    rw [e]
    unfold s_kw
    rw [set_comm (i := 38 + 2 * k) (j := 59 + 14 * h + 2 * t) (by omega), set_comm (i := 38 + 2 * k) (j := 60 + 14 * h + 2 * t) (by omega)]
  · rw [if_neg c, if_neg c]
theorem ag_fh {σ : Nat → Int32} {L : Nat → Nat → Int32} {h : Nat} : ∀ k, k ≤ 7 → ∀ j, s_fh (s_ag σ k) L h j = s_ag (s_fh σ L h j) k := by
  intro k
  induction k with
  | zero => intro _ j; rfl
  | succ k ih =>
    intro hk j
    show s_fh (s_a1 (s_ag σ k) k) L h j = s_a1 (s_ag (s_fh σ L h j) k) k
    rw [← ih (by omega) j]
    generalize s_ag σ k = τ
    induction j with
    | zero => rfl
    | succ j ihj =>
      show s_f1 (s_fh (s_a1 τ k) L h j) L h j = s_a1 (s_f1 (s_fh τ L h j) L h j) k
      rw [ihj, a1_f1 (by omega)]
theorem mx_eq {σ : Nat → Int32} {L : Nat → Nat → Int32} : ∀ k, k ≤ 7 → s_mx σ L k = s_ag (s_fo σ L k) k := by
  intro k
  induction k with
  | zero => intro _; rfl
  | succ k ih =>
    intro hk
    show s_a1 (s_fh (s_mx σ L k) L k (hs_n σ)) k = s_a1 (s_ag (s_fh (s_fo σ L k) L k (hs_n σ)) k) k
    rw [ih (by omega), ag_fh k (by omega)]
theorem mx_lo {σ : Nat → Int32} {L : Nat → Nat → Int32} {j : Nat} (hj : j < 38) {k : Nat} (hk : k ≤ 7) : s_mx σ L k j = σ j := by
  rw [mx_eq k hk, ag_o (fun i hi => by omega) k hk, fo_lo (by omega)]
theorem mx_ne {σ : Nat → Int32} {L : Nat → Nat → Int32} {h t k : Nat} (ht : t < 7) (hn7 : hs_n σ ≤ 7) (hk : k ≤ h) (hk7 : k ≤ 7) : s_va (s_mx σ L k) h t = s_va σ h t ∧ s_st (s_mx σ L k) h t = s_st σ h t := by
  have := fo_ne (σ := σ) (L := L) (h' := h) ht hn7 k hk
  rw [mx_eq k hk7]
  unfold s_va s_st at this ⊢
  rw [ag_o (fun i hi => by omega) k hk7, ag_o (fun i hi => by omega) k hk7]
  exact this
theorem mx_V {σ : Nat → Int32} {L : Nat → Nat → Int32} (V : s_V σ) (LV : s_LV L) {k : Nat} (hk : k ≤ hs_m σ) : s_V (s_mx σ L k) := by
  have nn := s_Vn V
  rw [mx_eq k (by omega)]
  refine ag_V (fo_V V LV k hk) k ?_
  rw [(nm_of (fun j hj => fo_lo (by omega) k)).2]
  exact hk
/-- what a YEAR of the reference may move -/
abbrev e_PS : Nat := 2 ^ 50 + 2 ^ 51 + 2 ^ 18
theorem e_s186 {M : gM} {j v : Int32} {k : Nat} {β : Type} {f : gM → Option β} {Q : β → Prop} (H : y_HT M) (hj : j.toInt = (k : Int)) (hk : k < 49) (g : ∀ M', y_HT M' → y_Fr (2 ^ 51) M M' → M'.2.1 186 k = v → (∀ a, a ≠ k → M'.2.1 186 a = M.2.1 186 a) → Ok (f M') Q) : Ok ((sI M (some 186) j v).bind f) Q := by
  refine y_sI (S := 2 ^ 51) H (i := 186) (n := 49) rfl (by omega) (by omega) (y_full rfl) (by decide) (fun M' H' f' e' o' l' => ?_)
  rw [i_cl hj] at e' o'
  exact g M' H' f' e' (fun a ha => o' 186 a (Or.inr ha))
theorem e_V_fr {S : Nat} {M M' : gM} {σ : Nat → Int32} (X : e_V M σ) (H : y_HT M') (f : y_Fr S M M') (h : S.testBit 50 = false) : e_V M' σ := ⟨H, (funext (fun q => y_fa (i := 185) f (by decide) h q)).trans X.2.1, X.2.2⟩
def e_Ls (M : gM) (σ : Nat → Int32) (L : Nat → Nat → Int32) (p : Nat → Nat → Prop) : Prop := ∀ h t, h < hs_m σ → t < hs_n σ → p h t → M.2.1 186 (7 * h + t) = if s_kn σ h t = true then L h t else 0
theorem E_ix7 {l1 l2 : Int32} {h t : Nat} (h1 : l1.toInt = (h : Int)) (h2 : l2.toInt = (t : Int)) (hh : h < 7) (ht : t < 7) : (((7 : Int32) * l1) + l2).toInt = ((7 * h + t : Nat) : Int) := by
  have a1 := i_mulL (c := (7 : Int32)) (x := l1) (n := 7) rfl (by omega) (by omega)
  have a2 := i_add (x := (7 : Int32) * l1) (y := l2) (by omega) (by omega)
  omega
/-- what is handed along through the YEAR -/
def e_C (I : gM → Prop) (M0 M : gM) (σ : Nat → Int32) : Prop := (e_V M σ ∧ I M) ∧ y_Fr e_PS M0 M
theorem E_strike_L176 {I : gM → Prop} {M0 : gM} {σ0 : Nat → Int32} (hI : ∀ M M', I M → y_HT M' → y_Fr e_PS M M' → I M') (V : s_V σ0) (hy : 0 ≤ (σ0 4).toInt) : ∀ (n t : Nat) {l1 l2 : Int32} {M : gM}, e_C I M0 M (s_ks σ0 t).2 → l1 = (s_ks σ0 t).1 → l2.toInt = (t : Int) → t ≤ hs_n σ0 → hs_n σ0 - t < n → Ok (F_X12_passes_L176 n (some 175) l1 l2 M) (fun r => r.1 = (s_ks σ0 (hs_n σ0)).1 ∧ e_C I M0 r.2 (hs_set (s_ks σ0 (hs_n σ0)).2 4 ((s_ks σ0 (hs_n σ0)).2 4 + 1))) := by
  intro n
  induction n with
  | zero => intro t l1 l2 M C h1 h2 ht hn; omega
  | succ n ih =>
    intro t l1 l2 M C h1 h2 ht hn
    have nn0 := s_Vn V
    have z0 : (0 : Int32).toInt = 0 := rfl
    have en := nm_of (σ := σ0) (σ' := (s_ks σ0 t).2) (fun i hi => ks_o (fun k hk => by omega) t (by omega))
    obtain ⟨⟨X, Ix⟩, F⟩ := C
    have nn := s_Vn X.2.2
    have y4 : (s_ks σ0 t).2 4 = σ0 4 := ks_o (fun i hi => by omega) t (by omega)
    show Ok (F_X12_passes_b176 (F_X12_passes_L176 n) (some 175) l1 l2 M) _
    delta F_X12_passes_b176 F_X12_passes_b228
    rw [e_sd X (k := 1) rfl (by decide)]
    have c0 := i_le_n h2 nn.1.1
    by_cases c : hs_n σ0 ≤ t
    · have : t = hs_n σ0 := by omega
      subst this
      rw [if_pos (c0.mpr (by omega)), e_gR X.1 (w := 185) rfl (by decide), Option.bind_some, e_aI X.1 (t := 20) (i := 185) (n := 157) rfl (by decide) (by decide) (by decide), Option.bind_some]
      rw [show (4 : Int32).toNatClampNeg = 4 from rfl, X.2.1]
      refine e_s185 X.1 X.2.1 (k := 4) rfl (by decide) (y_full rfl) (fun M5 H5 f5 e5 => ?_)
      have F5 : y_Fr e_PS M M5 := y_fl (by decide) f5
      exact Ok_s ⟨h1, ⟨⟨H5, e5, yr_V X.2.2⟩, hI _ _ Ix H5 F5⟩, y_tr F F5⟩
    · have nx := i_nx h2 (by omega)
      rw [if_neg (fun z => by have := c0.mp z; omega), e_gO X.1, Option.bind_some, E_thingOf X h2 (w := 3) rfl (by omega) (by decide), Option.bind_some, show 10 + 4 * t + 3 = 13 + 4 * t by omega]
      have step : s_ks σ0 (t + 1) = if s_kc (s_ks σ0 t).2 t = true then ((s_ks σ0 t).1 + 1, hs_set (s_ks σ0 t).2 (13 + 4 * t) ((s_ks σ0 t).2 4)) else s_ks σ0 t := rfl
      have same : s_kc (s_ks σ0 t).2 t = false → Ok (F_X12_passes_L176 n (some 175) l1 (l2 + 1) M) (fun r => r.1 = (s_ks σ0 (hs_n σ0)).1 ∧ e_C I M0 r.2 (hs_set (s_ks σ0 (hs_n σ0)).2 4 ((s_ks σ0 (hs_n σ0)).2 4 + 1))) := by
        intro kf
        rw [kf, if_neg (by decide)] at step
        exact ih (t + 1) (by rw [step]; exact ⟨⟨X, Ix⟩, F⟩) (by rw [step]; exact h1) nx (by omega) (by omega)
      by_cases c1 : ((s_ks σ0 t).2 (13 + 4 * t)).toInt < 0
      · rw [if_neg (fun z => by have := i_le z; omega), E_holdersOf X h2 (by omega), Option.bind_some]
        by_cases c2 : s_hs (s_ks σ0 t).2 t = 0
        · have kt : s_kc (s_ks σ0 t).2 t = true := by
            unfold s_kc
            rw [decide_eq_true c1, c2]
            rfl
          rw [if_pos c2]
          rw [kt, if_pos rfl] at step
          have a1 := i_mulL (c := (4 : Int32)) (x := l2) (n := 4) rfl (by omega) (by omega)
          have a2 := i_cadd (c := (10 : Int32)) (x := (4 : Int32) * l2) (n := 10) rfl (by omega) (by omega)
          have a3 := i_addc (x := (10 : Int32) + (4 : Int32) * l2) (c := (3 : Int32)) (n := 3) rfl (by omega) (by omega)
          refine e_r20 X.1 ?_
          rw [e_sd X (k := 4) rfl (by decide)]
          refine e_s185 X.1 X.2.1 (k := 13 + 4 * t) (by omega) (by omega) (y_full (h_tSn (by omega) (by omega) (by omega))) (fun M12 H12 f12 e12 => ?_)
          have F12 : y_Fr e_PS M M12 := y_fl (by decide) f12
          refine ih (t + 1) ?_ (by rw [step, h1]) nx (by omega) (by omega)
          rw [step]
          exact ⟨⟨⟨H12, e12, st_V X.2.2 (by omega) (by rw [y4]; omega)⟩, hI _ _ Ix H12 F12⟩, y_tr F F12⟩
        · rw [if_neg c2]
          refine same ?_
          unfold s_kc
          rw [decide_eq_true c1]
          simp [c2]
      · rw [if_pos (Int32.le_iff_toInt_le.mpr (by omega))]
        refine same ?_
        unfold s_kc
        rw [decide_eq_false c1]
        rfl
theorem E_fade_L82 {I : gM → Prop} {M0 : gM} {σ0 : Nat → Int32} {L : Nat → Nat → Int32} {h : Nat} {l1 l2 : Int32} {k70 : Option Nat → Int32 → Int32 → gM → Option (Int32 × gM)} {P : Int32 × gM → Prop} (hI : ∀ M M', I M → y_HT M' → y_Fr e_PS M M' → I M') (V : s_V σ0) (LV : s_LV L) (LS : e_Ls M0 σ0 L (fun _ _ => True)) (h2 : l2.toInt = (h : Int)) (hh : h < hs_m σ0)
    (g : ∀ M', (e_V M' (s_mx σ0 L (h + 1)) ∧ I M') ∧ y_Fr e_PS M0 M' ∧ M'.2.1 186 = M0.2.1 186 → Ok (k70 (some 175) l1 (l2 + 1) M') P) : ∀ (n t : Nat) {l3 : Int32} {M : gM}, (e_V M (s_fh (s_mx σ0 L h) L h t) ∧ I M) ∧ y_Fr e_PS M0 M ∧ M.2.1 186 = M0.2.1 186 → l3.toInt = (t : Int) → t ≤ hs_n σ0 → hs_n σ0 - t < n → Ok (F_X12_passes_L82 k70 n (some 175) l1 l2 l3 M) P := by
  intro n
  induction n with
  | zero => intro t l3 M C h3 ht hn; omega
  | succ n ih =>
    intro t l3 M C h3 ht hn
    have nn0 := s_Vn V
    have en := nm_of (σ := σ0) (σ' := s_fh (s_mx σ0 L h) L h t) (fun i hi => (fh_lo (by omega) t).trans (mx_lo (by omega) (by omega)))
    obtain ⟨⟨X, Ix⟩, F, e186⟩ := C
    have nn := s_Vn X.2.2
    show Ok (F_X12_passes_b82 k70 (F_X12_passes_L82 k70 n) (some 175) l1 l2 l3 M) P
    delta F_X12_passes_b82 F_X12_passes_b131 F_X12_passes_b168
    rw [e_sd X (k := 1) rfl (by decide)]
    have c0 := i_le_n h3 nn.1.1
    by_cases c : hs_n σ0 ≤ t
    · have : t = hs_n σ0 := by omega
      subst this
      have a1 := i_mulL (c := (2 : Int32)) (x := l2) (n := 2) rfl (by omega) (by omega)
      have a2 := i_cadd (c := (38 : Int32)) (x := (2 : Int32) * l2) (n := 38) rfl (by omega) (by omega)
      have ar := (X.2.2.2.2.2 h (by omega)).1
      rw [if_pos (c0.mpr (by omega)), e_sd X (k := 38 + 2 * h) (by omega) (by omega)]
      generalize hτ : s_fh (s_mx σ0 L h) L h (hs_n σ0) = τ at X ar nn en c0 ⊢
      have mxs : s_mx σ0 L (h + 1) = s_a1 τ h := by rw [← hτ]; rfl
      have z99 : (99 : Int32).toInt = 99 := rfl
      have ai := i_addc (x := τ (38 + 2 * h)) (c := (1 : Int32)) (n := 1) rfl (by omega) (by omega)
      by_cases c9 : (99 : Int32) ≤ τ (38 + 2 * h)
      · have c9' := i_le c9
        rw [if_pos c9]
        refine g M ⟨⟨?_, Ix⟩, F, e186⟩
        rw [mxs]
        have : s_a1 τ h = τ := by
          funext j
          unfold s_a1
          by_cases ej : j = 38 + 2 * h
          · subst ej
            rw [hs_se, if_neg (fun z => by have := i_lt z; omega)]
            exact Int32.toInt_inj.mp (by omega)
          · rw [hs_sn ej]
        rw [this]
        exact X
      · have c9' := i_nle c9
        rw [if_neg c9]
        refine e_r20 X.1 ?_
        rw [e_aI X.1 (t := 20) (i := 185) (n := 157) rfl (by decide) (by omega) (by omega), Option.bind_some, i_cl (n := 38 + 2 * h) (by omega), X.2.1]
        refine e_s185 X.1 X.2.1 (k := 38 + 2 * h) (by omega) (by omega) (h_in (h_tS38 (l := h) (by omega) rfl) (by omega)) (fun M7 H7 f7 e7 => ?_)
        have F7 : y_Fr e_PS M M7 := y_fl (by decide) f7
        refine g M7 ⟨⟨⟨H7, ?_, ?_⟩, hI _ _ Ix H7 F7⟩, y_tr F F7, (funext (fun q => y_fa (i := 186) f7 (by decide) (by decide) q)).trans e186⟩
        · rw [e7, mxs]
          unfold s_a1
          by_cases cl : τ (38 + 2 * h) + 1 < 99
          · rw [if_pos cl]
          · have := i_nlt cl
            rw [if_neg cl]
            congr 1
            exact Int32.toInt_inj.mp (by omega)
        · rw [mxs]
          exact a1_V X.2.2 (by omega)
    · have nx := i_nx h3 (by omega)
      have va := (fh_ne (σ := s_mx σ0 L h) (L := L) (h := h) (h' := h) (t' := t) (by omega) t (by omega) (Or.inr (Nat.le_refl _)))
      have vb := mx_ne (σ := σ0) (L := L) (h := h) (t := t) (k := h) (by omega) nn0.1.2 (Nat.le_refl _) (by omega)
      have ek : s_kn (s_fh (s_mx σ0 L h) L h t) h t = s_kn σ0 h t := (kn_of va.1).trans (kn_of vb.1)
      have step : s_fh (s_mx σ0 L h) L h (t + 1) = s_f1 (s_fh (s_mx σ0 L h) L h t) L h t := rfl
      rw [if_neg (fun z => by have := c0.mp z; omega), e_gO X.1, Option.bind_some, E_knowsOf X h2 h3 (by omega) (by omega), Option.bind_some]
      by_cases k : s_kn σ0 h t = true
      · have kv := s_kn1 X.2.2 (by omega) (by omega) (ek.trans k)
        have l := LV h t
        have es := i_sub (x := s_st (s_fh (s_mx σ0 L h) L h t) h t) (y := L h t) (by omega) (by omega)
        have ll := LS h t hh (by omega) trivial
        rw [if_pos k] at ll
        rw [ek, if_pos k, if_neg (by decide), E_valueOf X h2 h3 (by omega) (by omega), Option.bind_some, E_strengthOf X h2 h3 (by omega) (by omega), Option.bind_some, e_gR X.1 (w := 186) rfl (by decide), Option.bind_some, e_aI X.1 (t := 20) (i := 186) (n := 49) rfl (by decide) (by rw [E_ix7 h2 h3 (by omega) (by omega)]; omega) (by rw [E_ix7 h2 h3 (by omega) (by omega)]; omega), Option.bind_some, i_cl (E_ix7 h2 h3 (by omega) (by omega)), e186, ll]
        refine Ok_b (E_knowsNow X h2 h3 (by omega) (by omega) (by omega) (fun _ => kv.1)) (fun M14 z => ?_)
        have F14 : y_Fr e_PS M M14 := y_fl (by decide) z.1
        refine ih (t + 1) ⟨⟨?_, hI _ _ Ix z.2.1 F14⟩, y_tr F F14, (funext (fun q => y_fa (i := 186) z.1 (by decide) (by decide) q)).trans e186⟩ nx (by omega) (by omega)
        rw [step]
        unfold s_f1
        rw [ek, if_pos k]
        exact z.2
      · rw [ek, if_neg k, if_pos rfl]
        refine ih (t + 1) ⟨⟨?_, Ix⟩, F, e186⟩ nx (by omega) (by omega)
        rw [step]
        unfold s_f1
        rw [ek, if_neg k]
        exact X
theorem E_fade_L70 {I : gM → Prop} {M0 : gM} {σ0 : Nat → Int32} {L : Nat → Nat → Int32} (hI : ∀ M M', I M → y_HT M' → y_Fr e_PS M M' → I M') (V : s_V σ0) (LV : s_LV L) (hy : 0 ≤ (σ0 4).toInt) (LS : e_Ls M0 σ0 L (fun _ _ => True)) : ∀ (n h : Nat) {l2 : Int32} {M : gM}, (e_V M (s_mx σ0 L h) ∧ I M) ∧ y_Fr e_PS M0 M ∧ M.2.1 186 = M0.2.1 186 → l2.toInt = (h : Int) → h ≤ hs_m σ0 → hs_m σ0 - h < n → Ok (F_X12_passes_L70 n (some 175) (0 : Int32) l2 M) (fun r => r.1 = (s_ps σ0 L).1 ∧ e_C I M0 r.2 (s_ps σ0 L).2) := by
  intro n
  induction n with
  | zero => intro h l2 M C h2 hh hn; omega
  | succ n ih =>
    intro h l2 M C h2 hh hn
    have nn0 := s_Vn V
    have en := nm_of (σ := σ0) (σ' := s_mx σ0 L h) (fun i hi => mx_lo (by omega) (by omega))
    have X := C.1.1
    have nn := s_Vn X.2.2
    show Ok (F_X12_passes_b70 (F_X12_passes_L70 n) (some 175) 0 l2 M) _
    delta F_X12_passes_b70
    rw [e_sd X (k := 2) rfl (by decide)]
    have c0 := i_le_n h2 nn.2.1
    by_cases c : hs_m σ0 ≤ h
    · have : h = hs_m σ0 := by omega
      subst this
      rw [if_pos (c0.mpr (by omega))]
      have z := E_strike_L176 (I := I) (M0 := M0) (σ0 := s_mx σ0 L (hs_m σ0)) hI X.2.2 (by rw [mx_lo (by decide) (by omega)]; exact hy) g_fuel 0 (l1 := 0) (l2 := 0) (M := M) ⟨C.1, C.2.1⟩ rfl rfl (Nat.zero_le _) (n_fu (by omega))
      rw [en.1, mx_eq _ (by omega)] at z
      exact z
    · rw [if_neg (fun z => by have := c0.mp z; omega)]
      exact E_fade_L82 hI V LV LS h2 (by omega) (fun M' C' => ih (h + 1) C' (i_nx h2 (by omega)) (by omega) (by omega)) g_fuel 0 (l3 := 0) C rfl (Nat.zero_le _) (n_fu (by omega))
/-- how a loss is found -/
def e_LO (I : gM → Prop) (σ : Nat → Int32) (L : Nat → Nat → Int32) : Prop := ∀ (M : gM) (h t : Nat) (l1 l2 : Int32), e_V M σ → I M → l1.toInt = (h : Int) → l2.toInt = (t : Int) → h < hs_m σ → t < hs_n σ → s_kn σ h t = true → Ok (F_X12_lossOf (some 175) l1 l2 M) (fun r => r.1 = L h t ∧ (y_HT r.2 ∧ I r.2) ∧ y_Fr (2 ^ 18) M r.2)
theorem E_weigh_L16 {I : gM → Prop} {M0 : gM} {σ0 : Nat → Int32} {L : Nat → Nat → Int32} {h : Nat} {l1 l2 : Int32} {k4 : Option Nat → Int32 → Int32 → gM → Option (Int32 × gM)} {P : Int32 × gM → Prop} (hI : ∀ M M', I M → y_HT M' → y_Fr e_PS M M' → I M') (V : s_V σ0) (LO : e_LO I σ0 L) (h2 : l2.toInt = (h : Int)) (hh : h < hs_m σ0)
    (g : ∀ M', e_C I M0 M' σ0 → e_Ls M' σ0 L (fun a _ => a < h + 1) → Ok (k4 (some 175) l1 (l2 + 1) M') P) : ∀ (n t : Nat) {l3 : Int32} {M : gM}, e_C I M0 M σ0 → e_Ls M σ0 L (fun a b => a < h ∨ (a = h ∧ b < t)) → l3.toInt = (t : Int) → t ≤ hs_n σ0 → hs_n σ0 - t < n → Ok (F_X12_passes_L16 k4 n (some 175) l1 l2 l3 M) P := by
  intro n
  induction n with
  | zero => intro t l3 M C LS h3 ht hn; omega
  | succ n ih =>
    intro t l3 M C LS h3 ht hn
    obtain ⟨⟨X, Ix⟩, F⟩ := C
    have nn := s_Vn V
    show Ok (F_X12_passes_b16 k4 (F_X12_passes_L16 k4 n) (some 175) l1 l2 l3 M) P
    delta F_X12_passes_b16 F_X12_passes_b55
    rw [e_sd X (k := 1) rfl (by decide)]
    have c0 := i_le_n h3 nn.1.1
    by_cases c : hs_n σ0 ≤ t
    · rw [if_pos (c0.mpr c)]
      exact g M ⟨⟨X, Ix⟩, F⟩ (fun a b ha hb p => LS a b ha hb (by omega))
    · have nx := i_nx h3 (by omega)
      rw [if_neg (fun z => c (c0.mp z)), e_gR X.1 (w := 186) rfl (by decide), Option.bind_some, e_gO X.1, Option.bind_some, E_knowsOf X h2 h3 (by omega) (by omega), Option.bind_some]
      have put : ∀ {M1 : gM} {v : Int32}, e_C I M0 M1 σ0 → (∀ q, M1.2.1 186 q = M.2.1 186 q) → v = (if s_kn σ0 h t = true then L h t else 0) → Ok ((sI M1 (some 186) (((7 : Int32) * l2) + l3) v).bind fun M2 => F_X12_passes_L16 k4 n (some 175) l1 l2 (l3 + 1) M2) P := by
        intro M1 v C1 o1 hv
        refine e_s186 C1.1.1.1 (E_ix7 h2 h3 (by omega) (by omega)) (by omega) (fun M2 H2 f2 e2 o2 => ?_)
        have F2 : y_Fr e_PS M1 M2 := y_fl (by decide) f2
        refine ih (t + 1) ⟨⟨e_V_fr C1.1.1 H2 f2 (by decide), hI _ _ C1.1.2 H2 F2⟩, y_tr C1.2 F2⟩ (fun a b ha hb p => ?_) nx (by omega) (by omega)
        by_cases e : a = h ∧ b = t
        · obtain ⟨rfl, rfl⟩ := e
          rw [e2, hv]
        · rw [o2 _ (by omega), o1]
          exact LS a b ha hb (by omega)
      by_cases k : s_kn σ0 h t = true
      · rw [if_pos k, if_neg (by decide)]
        refine Ok_b (LO M h t l2 l3 X Ix h2 h3 hh (by omega) k) (fun r z => ?_)
        obtain ⟨v6, M7⟩ := r
        obtain ⟨z1, ⟨H7, I7⟩, f7⟩ := z
        dsimp only at z1 H7 I7 f7 ⊢
        exact put ⟨⟨e_V_fr X H7 f7 (by decide), I7⟩, y_tr F (y_fl (by decide) f7)⟩ (fun q => y_fa (i := 186) f7 (by decide) (by decide) q) (by rw [if_pos k]; exact z1)
      · rw [if_neg k, if_pos rfl]
        exact put ⟨⟨X, Ix⟩, F⟩ (fun _ => rfl) (by rw [if_neg k])
theorem E_weigh_L4 {I : gM → Prop} {M0 : gM} {σ0 : Nat → Int32} {L : Nat → Nat → Int32} (hI : ∀ M M', I M → y_HT M' → y_Fr e_PS M M' → I M') (V : s_V σ0) (LV : s_LV L) (hy : 0 ≤ (σ0 4).toInt) (LO : e_LO I σ0 L) : ∀ (n h : Nat) {l2 : Int32} {M : gM}, e_C I M0 M σ0 → e_Ls M σ0 L (fun a _ => a < h) → l2.toInt = (h : Int) → h ≤ hs_m σ0 → hs_m σ0 - h < n → Ok (F_X12_passes_L4 n (some 175) (0 : Int32) l2 M) (fun r => r.1 = (s_ps σ0 L).1 ∧ e_C I M0 r.2 (s_ps σ0 L).2) := by
  intro n
  induction n with
  | zero => intro h l2 M C LS h2 hh hn; omega
  | succ n ih =>
    intro h l2 M C LS h2 hh hn
    have X := C.1.1
    have nn := s_Vn V
    show Ok (F_X12_passes_b4 (F_X12_passes_L4 n) (some 175) 0 l2 M) _
    delta F_X12_passes_b4
    rw [e_sd X (k := 2) rfl (by decide)]
    have c0 := i_le_n h2 nn.2.1
    by_cases c : hs_m σ0 ≤ h
    · rw [if_pos (c0.mpr c)]
      have z := E_fade_L70 (I := I) (M0 := M) (σ0 := σ0) (L := L) hI V LV hy (fun a b ha hb _ => LS a b ha hb (by omega)) g_fuel 0 (l2 := 0) (M := M) ⟨C.1, y_rf0 _ _, rfl⟩ rfl (Nat.zero_le _) (n_fu (by omega))
      exact Ok_w z (fun r q => ⟨q.1, q.2.1, y_tr C.2 q.2.2⟩)
    · rw [if_neg (fun z => c (c0.mp z))]
      exact E_weigh_L16 hI V LO h2 (by omega) (fun M' C' LS' => ih (h + 1) C' LS' (i_nx h2 (by omega)) (by omega) (by omega)) g_fuel 0 (l3 := 0) C (fun a b ha hb p => LS a b ha hb (by omega)) rfl (Nat.zero_le _) (n_fu (by omega))
/-- the YEAR of the reference, however losses are found -/
theorem E_passes {I : gM → Prop} {M : gM} {σ : Nat → Int32} {L : Nat → Nat → Int32} (hI : ∀ M M', I M → y_HT M' → y_Fr e_PS M M' → I M') (X : e_V M σ) (Ix : I M) (LV : s_LV L) (hy : 0 ≤ (σ 4).toInt) (LO : e_LO I σ L) : Ok (F_X12_passes (some 175) M) (fun r => r.1 = (s_ps σ L).1 ∧ e_C I M r.2 (s_ps σ L).2) := by
  have nn := s_Vn X.2.2
  delta F_X12_passes F_X12_passes_b0
  exact E_weigh_L4 hI X.2.2 LV hy LO g_fuel 0 (l2 := 0) (M := M) ⟨⟨X, Ix⟩, y_rf0 _ _⟩ (fun a b ha hb p => absurd p (Nat.not_lt_zero _)) rfl (Nat.zero_le _) (n_fu (by omega))
