-- 7z9g.epass
/-! a YEAR of the reference -/
def s_mx (σ : Nat → Int32) (L : Nat → Nat → Int32) : Nat → Nat → Int32
  | 0 => σ
  | h + 1 => s_a1 (s_fh (s_mx σ L h) L h (hs_n σ)) h
theorem set_comm {σ : Nat → Int32} {i j : Nat} {a b : Int32} (h : i ≠ j) : hs_set (hs_set σ i a) j b = hs_set (hs_set σ j b) i a := by
  funext k
  unfold hs_set
  by_cases c1 : k = j
  · rw [if_pos c1, if_neg (fun z => h (z.symm.trans c1)), if_pos c1]
  · rw [if_neg c1, if_neg c1]
theorem a1_f1 {σ : Nat → Int32} {L : Nat → Nat → Int32} {h t k : Nat} (hk : k < 7) : s_f1 (s_a1 σ k) L h t = s_a1 (s_f1 σ L h t) k := by
  have v : s_va (s_a1 σ k) h t = s_va σ h t := a1_o (by omega)
  have s : s_st (s_a1 σ k) h t = s_st σ h t := a1_o (by omega)
  unfold s_f1
  rw [kn_of v, v, s]
  by_cases c : s_kn σ h t = true
  · rw [if_pos c, if_pos c]
    have e : s_kw σ h t (s_va σ h t) (s_st σ h t - L h t) (38 + 2 * k) = σ (38 + 2 * k) := kw_lo (by omega)
    unfold s_a1
    rw [e]
    unfold s_kw
    rw [set_comm (i := 38 + 2 * k) (j := 59 + 14 * h + 2 * t) (by omega), set_comm (i := 38 + 2 * k) (j := 60 + 14 * h + 2 * t) (by omega)]
  · rw [if_neg c, if_neg c]
theorem ag_fh {σ : Nat → Int32} {L : Nat → Nat → Int32} {h : Nat} : ∀ k, k ≤ 7 → ∀ j, s_fh (s_ag σ k) L h j = s_ag (s_fh σ L h j) k := by
  intro k
  induction k with
  | zero => intro _ j; rfl
  | succ k ih =>
    intro hk j
    show s_fh (s_a1 (s_ag σ k) k) L h j = s_a1 (s_ag (s_fh σ L h j) k) k
    rw [← ih (by omega) j]
    generalize s_ag σ k = τ
    induction j with
    | zero => rfl
    | succ j ihj =>
      show s_f1 (s_fh (s_a1 τ k) L h j) L h j = s_a1 (s_f1 (s_fh τ L h j) L h j) k
      rw [ihj, a1_f1 (by omega)]
theorem mx_eq {σ : Nat → Int32} {L : Nat → Nat → Int32} : ∀ k, k ≤ 7 → s_mx σ L k = s_ag (s_fo σ L k) k := by
  intro k
  induction k with
  | zero => intro _; rfl
  | succ k ih =>
    intro hk
    show s_a1 (s_fh (s_mx σ L k) L k (hs_n σ)) k = s_a1 (s_ag (s_fh (s_fo σ L k) L k (hs_n σ)) k) k
    rw [ih (by omega), ag_fh k (by omega)]
theorem mx_lo {σ : Nat → Int32} {L : Nat → Nat → Int32} {j : Nat} (hj : j < 38) {k : Nat} (hk : k ≤ 7) : s_mx σ L k j = σ j := by
  rw [mx_eq k hk, ag_o (fun i hi => by omega) k hk, fo_lo (by omega)]
theorem mx_ne {σ : Nat → Int32} {L : Nat → Nat → Int32} {h t k : Nat} (ht : t < 7) (hn7 : hs_n σ ≤ 7) (hk : k ≤ h) (hk7 : k ≤ 7) : s_va (s_mx σ L k) h t = s_va σ h t ∧ s_st (s_mx σ L k) h t = s_st σ h t := by
  have := fo_ne (σ := σ) (L := L) (h' := h) ht hn7 k hk
  rw [mx_eq k hk7]
  unfold s_va s_st at this ⊢
  rw [ag_o (fun i hi => by omega) k hk7, ag_o (fun i hi => by omega) k hk7]
  exact this
theorem mx_V {σ : Nat → Int32} {L : Nat → Nat → Int32} (V : s_V σ) (LV : s_LV L) {k : Nat} (hk : k ≤ hs_m σ) : s_V (s_mx σ L k) := by
  have nn := s_Vn V
  rw [mx_eq k (by omega)]
  refine ag_V (fo_V V LV k hk) k ?_
  rw [(nm_of (fun j hj => fo_lo (by omega) k)).2]
  exact hk
/-- what a YEAR of the reference may move -/
abbrev e_PS : Nat := 2 ^ 50 + 2 ^ 51 + 2 ^ 18
theorem e_s186 {M : gM} {j v : Int32} {k : Nat} {β : Type} {f : gM → Option β} {Q : β → Prop} (H : y_HT M) (hj : j.toInt = (k : Int)) (hk : k < 49) (g : ∀ M', y_HT M' → y_Fr (2 ^ 51) M M' → M'.2.1 186 k = v → (∀ a, a ≠ k → M'.2.1 186 a = M.2.1 186 a) → Ok (f M') Q) : Ok ((sI M (some 186) j v).bind f) Q := by
  refine y_sI (S := 2 ^ 51) H (i := 186) (n := 49) rfl (by omega) (by omega) (y_full rfl) (by decide) (fun M' H' f' e' o' l' => ?_)
  rw [i_cl hj] at e' o'
  exact g M' H' f' e' (fun a ha => o' 186 a (Or.inr ha))
theorem e_V_fr {S : Nat} {M M' : gM} {σ : Nat → Int32} (X : e_V M σ) (H : y_HT M') (f : y_Fr S M M') (h : S.testBit 50 = false) : e_V M' σ := ⟨H, (funext (fun q => y_fa (i := 185) f (by decide) h q)).trans X.2.1, X.2.2⟩
def e_Ls (M : gM) (σ : Nat → Int32) (L : Nat → Nat → Int32) (p : Nat → Nat → Prop) : Prop := ∀ h t, h < hs_m σ → t < hs_n σ → p h t → M.2.1 186 (7 * h + t) = if s_kn σ h t = true then L h t else 0
theorem E_ix7 {l1 l2 : Int32} {h t : Nat} (h1 : l1.toInt = (h : Int)) (h2 : l2.toInt = (t : Int)) (hh : h < 7) (ht : t < 7) : (((7 : Int32) * l1) + l2).toInt = ((7 * h + t : Nat) : Int) := by
  have a1 := i_mulL (c := (7 : Int32)) (x := l1) (n := 7) rfl (by omega) (by omega)
  have a2 := i_add (x := (7 : Int32) * l1) (y := l2) (by omega) (by omega)
  omega
/-- what is handed along through the YEAR -/
def e_C (I : gM → Prop) (M0 M : gM) (σ : Nat → Int32) : Prop := (e_V M σ ∧ I M) ∧ y_Fr e_PS M0 M
theorem E_strike_L176 {I : gM → Prop} {M0 : gM} {σ0 : Nat → Int32} (hI : ∀ M M', I M → y_HT M' → y_Fr e_PS M M' → I M') (V : s_V σ0) (hy : 0 ≤ (σ0 4).toInt) : ∀ (n t : Nat) {l1 l2 : Int32} {M : gM}, e_C I M0 M (s_ks σ0 t).2 → l1 = (s_ks σ0 t).1 → l2.toInt = (t : Int) → t ≤ hs_n σ0 → hs_n σ0 - t < n → Ok (F_X12_passes_L176 n (some 175) l1 l2 M) (fun r => r.1 = (s_ks σ0 (hs_n σ0)).1 ∧ e_C I M0 r.2 (hs_set (s_ks σ0 (hs_n σ0)).2 4 ((s_ks σ0 (hs_n σ0)).2 4 + 1))) := by
  intro n
  induction n with
  | zero => intro t l1 l2 M C h1 h2 ht hn; omega
  | succ n ih =>
    intro t l1 l2 M C h1 h2 ht hn
    have nn0 := s_Vn V
    have z0 : (0 : Int32).toInt = 0 := rfl
    have en := nm_of (σ := σ0) (σ' := (s_ks σ0 t).2) (fun i hi => ks_o (fun k hk => by omega) t (by omega))
    obtain ⟨⟨X, Ix⟩, F⟩ := C
    have nn := s_Vn X.2.2
    have y4 : (s_ks σ0 t).2 4 = σ0 4 := ks_o (fun i hi => by omega) t (by omega)
    show Ok (F_X12_passes_b176 (F_X12_passes_L176 n) (some 175) l1 l2 M) _
    delta F_X12_passes_b176 F_X12_passes_b228
    rw [e_sd X (k := 1) rfl (by decide)]
    have c0 := i_le_n h2 nn.1.1
    by_cases c : hs_n σ0 ≤ t
    · have : t = hs_n σ0 := by omega
      subst this
      rw [if_pos (c0.mpr (by omega)), e_gR X.1 (w := 185) rfl (by decide), Option.bind_some, e_aI X.1 (t := 20) (i := 185) (n := 157) rfl (by decide) (by decide) (by decide), Option.bind_some]
      rw [show (4 : Int32).toNatClampNeg = 4 from rfl, X.2.1]
      refine e_s185 X.1 X.2.1 (k := 4) rfl (by decide) (y_full rfl) (fun M5 H5 f5 e5 => ?_)
      have F5 : y_Fr e_PS M M5 := y_fl (by decide) f5
      exact Ok_s ⟨h1, ⟨⟨H5, e5, yr_V X.2.2⟩, hI _ _ Ix H5 F5⟩, y_tr F F5⟩
    · have nx := i_nx h2 (by omega)
      rw [if_neg (fun z => by have := c0.mp z; omega), e_gO X.1, Option.bind_some, E_thingOf X h2 (w := 3) rfl (by omega) (by decide), Option.bind_some, show 10 + 4 * t + 3 = 13 + 4 * t by omega]
      have step : s_ks σ0 (t + 1) = if s_kc (s_ks σ0 t).2 t = true then ((s_ks σ0 t).1 + 1, hs_set (s_ks σ0 t).2 (13 + 4 * t) ((s_ks σ0 t).2 4)) else s_ks σ0 t := rfl
      have same : s_kc (s_ks σ0 t).2 t = false → Ok (F_X12_passes_L176 n (some 175) l1 (l2 + 1) M) (fun r => r.1 = (s_ks σ0 (hs_n σ0)).1 ∧ e_C I M0 r.2 (hs_set (s_ks σ0 (hs_n σ0)).2 4 ((s_ks σ0 (hs_n σ0)).2 4 + 1))) := by
        intro kf
        rw [kf, if_neg (by decide)] at step
        exact ih (t + 1) (by rw [step]; exact ⟨⟨X, Ix⟩, F⟩) (by rw [step]; exact h1) nx (by omega) (by omega)
      by_cases c1 : ((s_ks σ0 t).2 (13 + 4 * t)).toInt < 0
      · rw [if_neg (fun z => by have := i_le z; omega), E_holdersOf X h2 (by omega), Option.bind_some]
        by_cases c2 : s_hs (s_ks σ0 t).2 t = 0
        · have kt : s_kc (s_ks σ0 t).2 t = true := by
            unfold s_kc
            rw [decide_eq_true c1, c2]
            rfl
          rw [if_pos c2]
          rw [kt, if_pos rfl] at step
          have a1 := i_mulL (c := (4 : Int32)) (x := l2) (n := 4) rfl (by omega) (by omega)
          have a2 := i_cadd (c := (10 : Int32)) (x := (4 : Int32) * l2) (n := 10) rfl (by omega) (by omega)
          have a3 := i_addc (x := (10 : Int32) + (4 : Int32) * l2) (c := (3 : Int32)) (n := 3) rfl (by omega) (by omega)
          refine e_r20 X.1 ?_
          rw [e_sd X (k := 4) rfl (by decide)]
          refine e_s185 X.1 X.2.1 (k := 13 + 4 * t) (by omega) (by omega) (y_full (h_tSn (by omega) (by omega) (by omega))) (fun M12 H12 f12 e12 => ?_)
          have F12 : y_Fr e_PS M M12 := y_fl (by decide) f12
          refine ih (t + 1) ?_ (by rw [step, h1]) nx (by omega) (by omega)
          rw [step]
          exact ⟨⟨⟨H12, e12, st_V X.2.2 (by omega) (by rw [y4]; omega)⟩, hI _ _ Ix H12 F12⟩, y_tr F F12⟩
        · rw [if_neg c2]
          refine same ?_
          unfold s_kc
          rw [decide_eq_true c1]
          simp [c2]
      · rw [if_pos (Int32.le_iff_toInt_le.mpr (by omega))]
        refine same ?_
        unfold s_kc
        rw [decide_eq_false c1]
        rfl
theorem E_fade_L82 {I : gM → Prop} {M0 : gM} {σ0 : Nat → Int32} {L : Nat → Nat → Int32} {h : Nat} {l1 l2 : Int32} {k70 : Option Nat → Int32 → Int32 → gM → Option (Int32 × gM)} {P : Int32 × gM → Prop} (hI : ∀ M M', I M → y_HT M' → y_Fr e_PS M M' → I M') (V : s_V σ0) (LV : s_LV L) (LS : e_Ls M0 σ0 L (fun _ _ => True)) (h2 : l2.toInt = (h : Int)) (hh : h < hs_m σ0)
    (g : ∀ M', (e_V M' (s_mx σ0 L (h + 1)) ∧ I M') ∧ y_Fr e_PS M0 M' ∧ M'.2.1 186 = M0.2.1 186 → Ok (k70 (some 175) l1 (l2 + 1) M') P) : ∀ (n t : Nat) {l3 : Int32} {M : gM}, (e_V M (s_fh (s_mx σ0 L h) L h t) ∧ I M) ∧ y_Fr e_PS M0 M ∧ M.2.1 186 = M0.2.1 186 → l3.toInt = (t : Int) → t ≤ hs_n σ0 → hs_n σ0 - t < n → Ok (F_X12_passes_L82 k70 n (some 175) l1 l2 l3 M) P := by
  intro n
  induction n with
  | zero => intro t l3 M C h3 ht hn; omega
  | succ n ih =>
    intro t l3 M C h3 ht hn
    have nn0 := s_Vn V
    have en := nm_of (σ := σ0) (σ' := s_fh (s_mx σ0 L h) L h t) (fun i hi => (fh_lo (by omega) t).trans (mx_lo (by omega) (by omega)))
    obtain ⟨⟨X, Ix⟩, F, e186⟩ := C
    have nn := s_Vn X.2.2
    show Ok (F_X12_passes_b82 k70 (F_X12_passes_L82 k70 n) (some 175) l1 l2 l3 M) P
    delta F_X12_passes_b82 F_X12_passes_b131 F_X12_passes_b168
    rw [e_sd X (k := 1) rfl (by decide)]
    have c0 := i_le_n h3 nn.1.1
    by_cases c : hs_n σ0 ≤ t
    · have : t = hs_n σ0 := by omega
      subst this
      have a1 := i_mulL (c := (2 : Int32)) (x := l2) (n := 2) rfl (by omega) (by omega)
      have a2 := i_cadd (c := (38 : Int32)) (x := (2 : Int32) * l2) (n := 38) rfl (by omega) (by omega)
      have ar := (X.2.2.2.2.2 h (by omega)).1
      rw [if_pos (c0.mpr (by omega)), e_sd X (k := 38 + 2 * h) (by omega) (by omega)]
      generalize hτ : s_fh (s_mx σ0 L h) L h (hs_n σ0) = τ at X ar nn en c0 ⊢
      have mxs : s_mx σ0 L (h + 1) = s_a1 τ h := by rw [← hτ]; rfl
      have z99 : (99 : Int32).toInt = 99 := rfl
      have ai := i_addc (x := τ (38 + 2 * h)) (c := (1 : Int32)) (n := 1) rfl (by omega) (by omega)
      by_cases c9 : (99 : Int32) ≤ τ (38 + 2 * h)
      · have c9' := i_le c9
        rw [if_pos c9]
        refine g M ⟨⟨?_, Ix⟩, F, e186⟩
        rw [mxs]
        have : s_a1 τ h = τ := by
          funext j
          unfold s_a1
          by_cases ej : j = 38 + 2 * h
          · subst ej
            rw [hs_se, if_neg (fun z => by have := i_lt z; omega)]
            exact Int32.toInt_inj.mp (by omega)
          · rw [hs_sn ej]
        rw [this]
        exact X
      · have c9' := i_nle c9
        rw [if_neg c9]
        refine e_r20 X.1 ?_
        rw [e_aI X.1 (t := 20) (i := 185) (n := 157) rfl (by decide) (by omega) (by omega), Option.bind_some, i_cl (n := 38 + 2 * h) (by omega), X.2.1]
        refine e_s185 X.1 X.2.1 (k := 38 + 2 * h) (by omega) (by omega) (h_in (h_tS38 (l := h) (by omega) rfl) (by omega)) (fun M7 H7 f7 e7 => ?_)
        have F7 : y_Fr e_PS M M7 := y_fl (by decide) f7
        refine g M7 ⟨⟨⟨H7, ?_, ?_⟩, hI _ _ Ix H7 F7⟩, y_tr F F7, (funext (fun q => y_fa (i := 186) f7 (by decide) (by decide) q)).trans e186⟩
        · rw [e7, mxs]
          unfold s_a1
          by_cases cl : τ (38 + 2 * h) + 1 < 99
          · rw [if_pos cl]
          · have := i_nlt cl
            rw [if_neg cl]
            congr 1
            exact Int32.toInt_inj.mp (by omega)
        · rw [mxs]
          exact a1_V X.2.2 (by omega)
    · have nx := i_nx h3 (by omega)
      have va := (fh_ne (σ := s_mx σ0 L h) (L := L) (h := h) (h' := h) (t' := t) (by omega) t (by omega) (Or.inr (Nat.le_refl _)))
      have vb := mx_ne (σ := σ0) (L := L) (h := h) (t := t) (k := h) (by omega) nn0.1.2 (Nat.le_refl _) (by omega)
      have ek : s_kn (s_fh (s_mx σ0 L h) L h t) h t = s_kn σ0 h t := (kn_of va.1).trans (kn_of vb.1)
      have step : s_fh (s_mx σ0 L h) L h (t + 1) = s_f1 (s_fh (s_mx σ0 L h) L h t) L h t := rfl
      rw [if_neg (fun z => by have := c0.mp z; omega), e_gO X.1, Option.bind_some, E_knowsOf X h2 h3 (by omega) (by omega), Option.bind_some]
      by_cases k : s_kn σ0 h t = true
      · have kv := s_kn1 X.2.2 (by omega) (by omega) (ek.trans k)
        have l := LV h t
        have es := i_sub (x := s_st (s_fh (s_mx σ0 L h) L h t) h t) (y := L h t) (by omega) (by omega)
        have ll := LS h t hh (by omega) trivial
        rw [if_pos k] at ll
        rw [ek, if_pos k, if_neg (by decide), E_valueOf X h2 h3 (by omega) (by omega), Option.bind_some, E_strengthOf X h2 h3 (by omega) (by omega), Option.bind_some, e_gR X.1 (w := 186) rfl (by decide), Option.bind_some, e_aI X.1 (t := 20) (i := 186) (n := 49) rfl (by decide) (by rw [E_ix7 h2 h3 (by omega) (by omega)]; omega) (by rw [E_ix7 h2 h3 (by omega) (by omega)]; omega), Option.bind_some, i_cl (E_ix7 h2 h3 (by omega) (by omega)), e186, ll]
        refine Ok_b (E_knowsNow X h2 h3 (by omega) (by omega) (by omega) (fun _ => kv.1)) (fun M14 z => ?_)
        have F14 : y_Fr e_PS M M14 := y_fl (by decide) z.1
        refine ih (t + 1) ⟨⟨?_, hI _ _ Ix z.2.1 F14⟩, y_tr F F14, (funext (fun q => y_fa (i := 186) z.1 (by decide) (by decide) q)).trans e186⟩ nx (by omega) (by omega)
        rw [step]
        unfold s_f1
        rw [ek, if_pos k]
        exact z.2
      · rw [ek, if_neg k, if_pos rfl]
        refine ih (t + 1) ⟨⟨?_, Ix⟩, F, e186⟩ nx (by omega) (by omega)
        rw [step]
        unfold s_f1
        rw [ek, if_neg k]
        exact X
theorem E_fade_L70 {I : gM → Prop} {M0 : gM} {σ0 : Nat → Int32} {L : Nat → Nat → Int32} (hI : ∀ M M', I M → y_HT M' → y_Fr e_PS M M' → I M') (V : s_V σ0) (LV : s_LV L) (hy : 0 ≤ (σ0 4).toInt) (LS : e_Ls M0 σ0 L (fun _ _ => True)) : ∀ (n h : Nat) {l2 : Int32} {M : gM}, (e_V M (s_mx σ0 L h) ∧ I M) ∧ y_Fr e_PS M0 M ∧ M.2.1 186 = M0.2.1 186 → l2.toInt = (h : Int) → h ≤ hs_m σ0 → hs_m σ0 - h < n → Ok (F_X12_passes_L70 n (some 175) (0 : Int32) l2 M) (fun r => r.1 = (s_ps σ0 L).1 ∧ e_C I M0 r.2 (s_ps σ0 L).2) := by
  intro n
  induction n with
  | zero => intro h l2 M C h2 hh hn; omega
  | succ n ih =>
    intro h l2 M C h2 hh hn
    have nn0 := s_Vn V
    have en := nm_of (σ := σ0) (σ' := s_mx σ0 L h) (fun i hi => mx_lo (by omega) (by omega))
    have X := C.1.1
    have nn := s_Vn X.2.2
    show Ok (F_X12_passes_b70 (F_X12_passes_L70 n) (some 175) 0 l2 M) _
    delta F_X12_passes_b70
    rw [e_sd X (k := 2) rfl (by decide)]
    have c0 := i_le_n h2 nn.2.1
    by_cases c : hs_m σ0 ≤ h
    · have : h = hs_m σ0 := by omega
      subst this
      rw [if_pos (c0.mpr (by omega))]
      have z := E_strike_L176 (I := I) (M0 := M0) (σ0 := s_mx σ0 L (hs_m σ0)) hI X.2.2 (by rw [mx_lo (by decide) (by omega)]; exact hy) g_fuel 0 (l1 := 0) (l2 := 0) (M := M) ⟨C.1, C.2.1⟩ rfl rfl (Nat.zero_le _) (n_fu (by omega))
      rw [en.1, mx_eq _ (by omega)] at z
      exact z
    · rw [if_neg (fun z => by have := c0.mp z; omega)]
      exact E_fade_L82 hI V LV LS h2 (by omega) (fun M' C' => ih (h + 1) C' (i_nx h2 (by omega)) (by omega) (by omega)) g_fuel 0 (l3 := 0) C rfl (Nat.zero_le _) (n_fu (by omega))
/-- how a loss is found -/
def e_LO (I : gM → Prop) (σ : Nat → Int32) (L : Nat → Nat → Int32) : Prop := ∀ (M : gM) (h t : Nat) (l1 l2 : Int32), e_V M σ → I M → l1.toInt = (h : Int) → l2.toInt = (t : Int) → h < hs_m σ → t < hs_n σ → s_kn σ h t = true → Ok (F_X12_lossOf (some 175) l1 l2 M) (fun r => r.1 = L h t ∧ (y_HT r.2 ∧ I r.2) ∧ y_Fr (2 ^ 18) M r.2)
theorem E_weigh_L16 {I : gM → Prop} {M0 : gM} {σ0 : Nat → Int32} {L : Nat → Nat → Int32} {h : Nat} {l1 l2 : Int32} {k4 : Option Nat → Int32 → Int32 → gM → Option (Int32 × gM)} {P : Int32 × gM → Prop} (hI : ∀ M M', I M → y_HT M' → y_Fr e_PS M M' → I M') (V : s_V σ0) (LO : e_LO I σ0 L) (h2 : l2.toInt = (h : Int)) (hh : h < hs_m σ0)
    (g : ∀ M', e_C I M0 M' σ0 → e_Ls M' σ0 L (fun a _ => a < h + 1) → Ok (k4 (some 175) l1 (l2 + 1) M') P) : ∀ (n t : Nat) {l3 : Int32} {M : gM}, e_C I M0 M σ0 → e_Ls M σ0 L (fun a b => a < h ∨ (a = h ∧ b < t)) → l3.toInt = (t : Int) → t ≤ hs_n σ0 → hs_n σ0 - t < n → Ok (F_X12_passes_L16 k4 n (some 175) l1 l2 l3 M) P := by
  intro n
  induction n with
  | zero => intro t l3 M C LS h3 ht hn; omega
  | succ n ih =>
    intro t l3 M C LS h3 ht hn
    obtain ⟨⟨X, Ix⟩, F⟩ := C
    have nn := s_Vn V
    show Ok (F_X12_passes_b16 k4 (F_X12_passes_L16 k4 n) (some 175) l1 l2 l3 M) P
    delta F_X12_passes_b16 F_X12_passes_b55
    rw [e_sd X (k := 1) rfl (by decide)]
    have c0 := i_le_n h3 nn.1.1
    by_cases c : hs_n σ0 ≤ t
    · rw [if_pos (c0.mpr c)]
      exact g M ⟨⟨X, Ix⟩, F⟩ (fun a b ha hb p => LS a b ha hb (by omega))
    · have nx := i_nx h3 (by omega)
      rw [if_neg (fun z => c (c0.mp z)), e_gR X.1 (w := 186) rfl (by decide), Option.bind_some, e_gO X.1, Option.bind_some, E_knowsOf X h2 h3 (by omega) (by omega), Option.bind_some]
      have put : ∀ {M1 : gM} {v : Int32}, e_C I M0 M1 σ0 → (∀ q, M1.2.1 186 q = M.2.1 186 q) → v = (if s_kn σ0 h t = true then L h t else 0) → Ok ((sI M1 (some 186) (((7 : Int32) * l2) + l3) v).bind fun M2 => F_X12_passes_L16 k4 n (some 175) l1 l2 (l3 + 1) M2) P := by
        intro M1 v C1 o1 hv
        refine e_s186 C1.1.1.1 (E_ix7 h2 h3 (by omega) (by omega)) (by omega) (fun M2 H2 f2 e2 o2 => ?_)
        have F2 : y_Fr e_PS M1 M2 := y_fl (by decide) f2
        refine ih (t + 1) ⟨⟨e_V_fr C1.1.1 H2 f2 (by decide), hI _ _ C1.1.2 H2 F2⟩, y_tr C1.2 F2⟩ (fun a b ha hb p => ?_) nx (by omega) (by omega)
        by_cases e : a = h ∧ b = t
        · obtain ⟨rfl, rfl⟩ := e
          rw [e2, hv]
        · rw [o2 _ (by omega), o1]
          exact LS a b ha hb (by omega)
      by_cases k : s_kn σ0 h t = true
      · rw [if_pos k, if_neg (by decide)]
        refine Ok_b (LO M h t l2 l3 X Ix h2 h3 hh (by omega) k) (fun r z => ?_)
        obtain ⟨v6, M7⟩ := r
        obtain ⟨z1, ⟨H7, I7⟩, f7⟩ := z
        dsimp only at z1 H7 I7 f7 ⊢
        exact put ⟨⟨e_V_fr X H7 f7 (by decide), I7⟩, y_tr F (y_fl (by decide) f7)⟩ (fun q => y_fa (i := 186) f7 (by decide) (by decide) q) (by rw [if_pos k]; exact z1)
      · rw [if_neg k, if_pos rfl]
        exact put ⟨⟨X, Ix⟩, F⟩ (fun _ => rfl) (by rw [if_neg k])
theorem E_weigh_L4 {I : gM → Prop} {M0 : gM} {σ0 : Nat → Int32} {L : Nat → Nat → Int32} (hI : ∀ M M', I M → y_HT M' → y_Fr e_PS M M' → I M') (V : s_V σ0) (LV : s_LV L) (hy : 0 ≤ (σ0 4).toInt) (LO : e_LO I σ0 L) : ∀ (n h : Nat) {l2 : Int32} {M : gM}, e_C I M0 M σ0 → e_Ls M σ0 L (fun a _ => a < h) → l2.toInt = (h : Int) → h ≤ hs_m σ0 → hs_m σ0 - h < n → Ok (F_X12_passes_L4 n (some 175) (0 : Int32) l2 M) (fun r => r.1 = (s_ps σ0 L).1 ∧ e_C I M0 r.2 (s_ps σ0 L).2) := by
  intro n
  induction n with
  | zero => intro h l2 M C LS h2 hh hn; omega
  | succ n ih =>
    intro h l2 M C LS h2 hh hn
    have X := C.1.1
    have nn := s_Vn V
    show Ok (F_X12_passes_b4 (F_X12_passes_L4 n) (some 175) 0 l2 M) _
    delta F_X12_passes_b4
    rw [e_sd X (k := 2) rfl (by decide)]
    have c0 := i_le_n h2 nn.2.1
    by_cases c : hs_m σ0 ≤ h
    · rw [if_pos (c0.mpr c)]
      have z := E_fade_L70 (I := I) (M0 := M) (σ0 := σ0) (L := L) hI V LV hy (fun a b ha hb _ => LS a b ha hb (by omega)) g_fuel 0 (l2 := 0) (M := M) ⟨C.1, y_rf0 _ _, rfl⟩ rfl (Nat.zero_le _) (n_fu (by omega))
      exact Ok_w z (fun r q => ⟨q.1, q.2.1, y_tr C.2 q.2.2⟩)
    · rw [if_neg (fun z => c (c0.mp z))]
      exact E_weigh_L16 hI V LO h2 (by omega) (fun M' C' LS' => ih (h + 1) C' LS' (i_nx h2 (by omega)) (by omega) (by omega)) g_fuel 0 (l3 := 0) C (fun a b ha hb p => LS a b ha hb (by omega)) rfl (Nat.zero_le _) (n_fu (by omega))
/-- the YEAR of the reference, however losses are found -/
theorem E_passes {I : gM → Prop} {M : gM} {σ : Nat → Int32} {L : Nat → Nat → Int32} (hI : ∀ M M', I M → y_HT M' → y_Fr e_PS M M' → I M') (X : e_V M σ) (Ix : I M) (LV : s_LV L) (hy : 0 ≤ (σ 4).toInt) (LO : e_LO I σ L) : Ok (F_X12_passes (some 175) M) (fun r => r.1 = (s_ps σ L).1 ∧ e_C I M r.2 (s_ps σ L).2) := by
  have nn := s_Vn X.2.2
  delta F_X12_passes F_X12_passes_b0
  exact E_weigh_L4 hI X.2.2 LV hy LO g_fuel 0 (l2 := 0) (M := M) ⟨⟨X, Ix⟩, y_rf0 _ _⟩ (fun a b ha hb p => absurd p (Nat.not_lt_zero _)) rfl (Nat.zero_le _) (n_fu (by omega))
-- 7z9h.weigh
/-! losses without a RULE, and the class's weighing -/
def s_pl (σ : Nat → Int32) (h t : Nat) : Int32 :=
  let a := if hs_is (σ 8) (Int32.ofNat t) = 1 then σ (11 + 4 * t) * (2 : Int32) else σ (11 + 4 * t)
  let b := if hs_is (σ 7) (Int32.ofNat t) = 1 then a / 2 else a
  let c := b + σ (38 + 2 * h) / 20
  if hs_is (σ 6) (Int32.ofNat h) = 1 then c / 2 else c
theorem s_pl_a {σ : Nat → Int32} {h t : Nat} (V : s_V σ) (hh : h < hs_m σ) (ht : t < hs_n σ) {a : Int32} (ha : 0 ≤ a.toInt ∧ a.toInt ≤ 40) : 0 ≤ (a + σ (38 + 2 * h) / 20).toInt ∧ (a + σ (38 + 2 * h) / 20).toInt ≤ 44 := by
  have nn := s_Vn V
  have ag := (V.2.2.2 h (by omega)).1
  have d := i_div (x := σ (38 + 2 * h)) (c := (20 : Int32)) (n := 20) rfl (by decide) (by omega)
  have e := i_add (x := a) (y := σ (38 + 2 * h) / 20) (by omega) (by omega)
  omega
theorem s_pl_b {σ : Nat → Int32} {t : Nat} (V : s_V σ) (ht : t < hs_n σ) : (0 ≤ (if hs_is (σ 8) (Int32.ofNat t) = 1 then σ (11 + 4 * t) * (2 : Int32) else σ (11 + 4 * t)).toInt ∧ (if hs_is (σ 8) (Int32.ofNat t) = 1 then σ (11 + 4 * t) * (2 : Int32) else σ (11 + 4 * t)).toInt ≤ 40) ∧ σ (11 + 4 * t) * (2 : Int32) = (2 : Int32) * σ (11 + 4 * t) := by
  have nn := s_Vn V
  have fd := (V.2.2.1 t (by omega)).1.2
  have e := i_mulR (x := σ (11 + 4 * t)) (c := (2 : Int32)) (n := 2) rfl (by omega) (by omega)
  refine ⟨?_, Int32.mul_comm _ _⟩
  by_cases c : hs_is (σ 8) (Int32.ofNat t) = 1
  · rw [if_pos c]
    omega
  · rw [if_neg c]
    omega
theorem s_half {a : Int32} {c : Prop} [Decidable c] (ha : 0 ≤ a.toInt ∧ a.toInt ≤ 44) : 0 ≤ (if c then a / 2 else a).toInt ∧ (if c then a / 2 else a).toInt ≤ a.toInt := by
  have d := i_div (x := a) (c := (2 : Int32)) (n := 2) rfl (by decide) (by omega)
  by_cases h : c
  · rw [if_pos h]
    omega
  · rw [if_neg h]
    omega
theorem s_pl_r {σ : Nat → Int32} {h t : Nat} (V : s_V σ) (hh : h < hs_m σ) (ht : t < hs_n σ) : 0 ≤ (s_pl σ h t).toInt ∧ (s_pl σ h t).toInt ≤ 44 := by
  have b := (s_pl_b V ht).1
  unfold s_pl
  dsimp only
  generalize (if hs_is (σ 8) (Int32.ofNat t) = 1 then σ (11 + 4 * t) * (2 : Int32) else σ (11 + 4 * t)) = a at b ⊢
  have c := s_half (a := a) (c := hs_is (σ 7) (Int32.ofNat t) = 1) ⟨b.1, by omega⟩
  generalize (if hs_is (σ 7) (Int32.ofNat t) = 1 then a / 2 else a) = a2 at c ⊢
  have d := s_pl_a V hh ht (a := a2) ⟨c.1, by omega⟩
  generalize a2 + σ (38 + 2 * h) / 20 = a3 at d ⊢
  have e := s_half (a := a3) (c := hs_is (σ 6) (Int32.ofNat h) = 1) d
  omega
theorem C_plainLoss {M : gM} {s e h t : Nat} {σ : Nat → Int32} {l1 l2 : Int32} (X : k_X M s e σ) (h1 : l1.toInt = (h : Int)) (h2 : l2.toInt = (t : Int)) (hh : h < hs_m σ) (ht : t < hs_n σ) : F_X1_plainLoss (some e) l1 l2 (σ (38 + 2 * h)) (σ 8) M = some (s_pl σ h t) := by
  obtain ⟨⟨ke, ⟨e6, e7⟩, e9, e10⟩, _⟩ := k_XE X
  have nn := s_Vn X.2.2
  have R1 : g_k M (e + 2) = (20, 7) ∧ M.2.2.2 e 1 = some (e + 2) := k_XR (i := 1) X (by decide)
  have fd : M.2.1 (e + 2) t = σ (11 + 4 * t) := (X.2.1.1.2.2.1 t (by omega)).1.2
  have n1 := i_nt h1 (by omega)
  have n2 := i_nt h2 (by omega)
  delta F_X1_plainLoss F_X1_plainLoss_b0 F_X1_plainLoss_b27 F_X1_plainLoss_b47
  unfold s_pl
  dsimp only
  have ai : aI 20 M (some (e + 2)) l2 = some (σ (11 + 4 * t)) := by rw [t_aI R1.1 (by omega) (by omega), i_cl h2, fd]
  have g9 : gI 1 M (some e) 9 = some (σ 7) := by rw [t_gI ke, e9]
  have g10 : gI 1 M (some e) 10 = some (σ 6) := by rw [t_gI ke, e10]
  simp only [C_bit, Option.bind_some, t_gR ke R1.2, ai, g9, g10, ← n1, ← n2]
  by_cases c1 : hs_is (σ 8) l2 = 1
  · simp only [if_pos c1, Option.bind_some, t_gR ke R1.2, ai, g9, g10]
    by_cases c2 : hs_is (σ 7) l2 = 1
    · simp only [if_pos c2, Option.bind_some]
      by_cases c3 : hs_is (σ 6) l1 = 1
      · simp only [if_pos c3]
      · simp only [if_neg c3]
    · simp only [if_neg c2, Option.bind_some]
      by_cases c3 : hs_is (σ 6) l1 = 1
      · simp only [if_pos c3]
      · simp only [if_neg c3]
  · simp only [if_neg c1, Option.bind_some, t_gR ke R1.2, ai, g9, g10]
    by_cases c2 : hs_is (σ 7) l2 = 1
    · simp only [if_pos c2, Option.bind_some]
      by_cases c3 : hs_is (σ 6) l1 = 1
      · simp only [if_pos c3]
      · simp only [if_neg c3]
    · simp only [if_neg c2, Option.bind_some]
      by_cases c3 : hs_is (σ 6) l1 = 1
      · simp only [if_pos c3]
      · simp only [if_neg c3]
theorem E_fades {M : gM} {h t : Nat} {σ : Nat → Int32} {l1 l2 : Int32} (X : e_V M σ) (h1 : l1.toInt = (h : Int)) (h2 : l2.toInt = (t : Int)) (hh : h < hs_m σ) (ht : t < hs_n σ) : F_X12_fades (some 175) l1 l2 (σ (38 + 2 * h)) M = some (s_pl σ h t) := by
  have nn := s_Vn X.2.2
  have b := s_pl_b X.2.2 ht
  have n1 := i_nt h1 (by omega)
  have n2 := i_nt h2 (by omega)
  have z99 : (99 : Int32).toInt = 99 := rfl
  delta F_X12_fades F_X12_fades_b0
  rw [e_gO X.1, Option.bind_some, E_thingOf X h2 (w := 1) rfl (by omega) (by decide), Option.bind_some, show 10 + 4 * t + 1 = 11 + 4 * t by omega, e_sd X (k := 8) rfl (by decide), R_isOf, Option.bind_some]
  unfold s_pl
  dsimp only
  rw [← n1, ← n2, b.2]
  rw [← n2, b.2] at b
  have b71 : ∀ a : Int32, F_X12_fades_b71 M (some 175) l1 a = some (if hs_is (σ 6) l1 = 1 then a / 2 else a) := by
    intro a
    delta F_X12_fades_b71
    rw [e_sd X (k := 6) rfl (by decide), R_isOf, Option.bind_some]
    by_cases c : hs_is (σ 6) l1 = 1
    · rw [if_pos c, if_pos c, if_neg (by decide)]
    · rw [if_neg c, if_neg c, if_pos rfl]
  have b48 : ∀ a : Int32, 0 ≤ a.toInt ∧ a.toInt ≤ 40 → F_X12_fades_b48 M (some 175) l1 (σ (38 + 2 * h)) a = some (if hs_is (σ 6) l1 = 1 then (a + σ (38 + 2 * h) / 20) / 2 else a + σ (38 + 2 * h) / 20) := by
    intro a ha
    have r := s_pl_a X.2.2 hh ht ha
    delta F_X12_fades_b48
    rw [if_pos (Int32.le_iff_toInt_le.mpr (by omega)), b71]
  have b28 : ∀ a : Int32, 0 ≤ a.toInt ∧ a.toInt ≤ 40 → F_X12_fades_b28 M (some 175) l1 l2 (σ (38 + 2 * h)) a = some (if hs_is (σ 6) l1 = 1 then ((if hs_is (σ 7) l2 = 1 then a / 2 else a) + σ (38 + 2 * h) / 20) / 2 else (if hs_is (σ 7) l2 = 1 then a / 2 else a) + σ (38 + 2 * h) / 20) := by
    intro a ha
    have r := s_half (a := a) (c := hs_is (σ 7) l2 = 1) ⟨ha.1, by omega⟩
    delta F_X12_fades_b28
    rw [e_sd X (k := 7) rfl (by decide), R_isOf, Option.bind_some]
    by_cases c : hs_is (σ 7) l2 = 1
    · rw [if_pos c] at r
      rw [if_pos c, if_pos c, if_neg (by decide)]
      exact b48 _ ⟨r.1, by omega⟩
    · rw [if_neg c, if_neg c, if_pos rfl]
      exact b48 _ ha
  by_cases c : hs_is (σ 8) l2 = 1
  · rw [if_pos c] at b
    rw [if_pos c, if_pos c, if_neg (by decide)]
    exact b28 _ b.1
  · rw [if_neg c] at b
    rw [if_neg c, if_neg c, if_pos rfl]
    exact b28 _ b.1
/-- only the years' own cells moved -/
def k_F58 (M M' : gM) : Prop := (M'.1 = M.1 ∧ M'.2.2.2 = M.2.2.2) ∧ ∀ i, i < 5 ∨ 8 < i → M'.2.1 i = M.2.1 i ∧ M'.2.2.1 i = M.2.2.1 i
theorem k_58r {M : gM} : k_F58 M M := ⟨⟨rfl, rfl⟩, fun _ _ => ⟨rfl, rfl⟩⟩
theorem k_58t {M M1 M2 : gM} (h1 : k_F58 M M1) (h2 : k_F58 M1 M2) : k_F58 M M2 := ⟨⟨h2.1.1.trans h1.1.1, h2.1.2.trans h1.1.2⟩, fun i h => ⟨(h2.2 i h).1.trans (h1.2 i h).1, (h2.2 i h).2.trans (h1.2 i h).2⟩⟩
theorem k_58I {M : gM} {i k : Nat} {v : Int32} (h : 5 ≤ i ∧ i ≤ 8) : k_F58 M (mI M i k v) := ⟨⟨rfl, rfl⟩, fun j hj => ⟨g_up_ne _ _ _ (by omega), rfl⟩⟩
theorem k_58L {M : gM} {i k : Nat} {v : Int64} (h : 5 ≤ i ∧ i ≤ 8) : k_F58 M (mL M i k v) := ⟨⟨rfl, rfl⟩, fun j hj => ⟨rfl, g_up_ne _ _ _ (by omega)⟩⟩
theorem k_X58 {M M' : gM} {s e : Nat} {σ : Nat → Int32} (X : k_X M s e σ) (f : k_F58 M M') (hs8 : 8 < s) (he : 8 < e) : k_X M' s e σ :=
  ⟨⟨k_LEm X.1.1 (fun i => q_k_of f.1.1) f.1.2, k_LSm X.1.2 (fun i => q_k_of f.1.1) f.1.2⟩, ⟨k_Em X.2.1.1 (fun i k h1 h2 _ => by rw [(f.2 i (by omega)).1]), k_Sm X.2.1.2 (fun i k h1 h2 => by rw [(f.2 i (by omega)).1])⟩, X.2.2⟩
/-- how the class finds a loss -/
def C_LO (J : gM → Prop) (s e : Nat) (σ : Nat → Int32) (L : Nat → Nat → Int32) (rl : Option Nat) : Prop := ∀ (M : gM) (h t : Nat) (l4 l5 : Int32) (f : Option Nat → gM → Option gM) (P : gM → Prop), k_X M s e σ → k_Y M → J M → l4.toInt = (h : Int) → l5.toInt = (t : Int) → h < hs_m σ → t < hs_n σ → s_kn σ h t = true →
  (∀ M', k_F58 M M' → J M' → M'.2.1 5 (7 * h + t) = L h t → (∀ a, a ≠ 7 * h + t → M'.2.1 5 a = M.2.1 5 a) → Ok (f (some e) M') P) →
  Ok (if rl = none then ((gR 10 M (some 4) 0).bind fun v13 => (gR 8 M (some s) 2).bind fun v14 => (aI 20 M v14 l4).bind fun v15 => (gI 8 M (some s) 4).bind fun v16 => (gO 1 M (some e)).bind fun i17 => (F_X1_plainLoss (some i17) l4 l5 v15 v16 M).bind fun v18 => (sI M v13 ((l4 * (7 : Int32)) + l5) v18).bind fun M19 => f (some i17) M19) else ((gR 10 M (some 4) 1).bind fun v4 => (gO 5 M v4).bind fun i5 => (F_X5_look (some i5) (some e) (some s) l4 l5 M).bind fun M6 => (gR 10 M6 (some 4) 0).bind fun v7 => (gR 10 M6 (some 4) 1).bind fun v8 => (gO 5 M6 v8).bind fun i9 => (F_X5_loss (some i9) rl M6).bind fun (v10, M11) => (sI M11 v7 ((l4 * (7 : Int32)) + l5) ((if (if v10 < (99 : Int64) then v10 else (99 : Int64)) < (0 : Int64) then (0 : Int64) else (if v10 < (99 : Int64) then v10 else (99 : Int64)))).toInt32).bind fun M12 => f (some e) M12)) P
theorem C_LO_none {s e : Nat} {σ : Nat → Int32} {J : gM → Prop} (hJ : ∀ M M', J M → k_F58 M M' → J M') : C_LO J s e σ (s_pl σ) none := by
  intro M h t l4 l5 f P X Y Jx h4 h5 hh ht k g
  obtain ⟨⟨ke, _⟩, ⟨⟨ks, k1, k2⟩, k3, k4⟩, ⟨r0, r1⟩, r2, r3⟩ := k_XE X
  have nn := s_Vn X.2.2
  have ix := k_ix h4 h5 (by omega) (by omega)
  have av : M.2.1 (s + 3) h = σ (38 + 2 * h) := (X.2.1.2.2.1 h (by omega)).1
  rw [if_pos rfl]
  refine x_gR Y.1.1.1 Y.2.1 (x_gR ks r2 (x_aI k3 h4 (by omega) av (x_gI ks X.2.1.2.1.1.1 (x_gO ke (x_eq (C_plainLoss X h4 h5 hh ht) ?_)))))
  refine x_sI Y.1.1.2 ix (by omega) ?_
  have f1 : k_F58 M (mI M 5 (7 * h + t) (s_pl σ h t)) := k_58I (by omega)
  exact g _ f1 (hJ _ _ Jx f1) y_mI1 (fun a ha => mI_ne (Or.inr ha))
theorem C_weigh_L15 {J : gM → Prop} {M0 : gM} {s e h : Nat} {σ : Nat → Int32} {L : Nat → Nat → Int32} {rl : Option Nat} {l4 : Int32} {k3 : Option Nat → Option Nat → Option Nat → Option Nat → Int32 → gM → Option gM} {P : gM → Prop} (hs8 : 8 < s) (he : 8 < e) (Y0 : k_Y M0) (X0 : k_X M0 s e σ) (hJ : ∀ M M', J M → k_F58 M M' → J M') (LO : C_LO J s e σ L rl) (h4 : l4.toInt = (h : Int)) (hh : h < hs_m σ)
    (g : ∀ M', k_F58 M0 M' → J M' → (∀ a b, a < hs_m σ → b < hs_n σ → a < h + 1 → M'.2.1 5 (7 * a + b) = if s_kn σ a b = true then L a b else 0) → Ok (k3 (some 4) (some e) (some s) rl (l4 + 1) M') P) : ∀ (n t : Nat) {l5 : Int32} {M : gM}, k_F58 M0 M → J M → (∀ a b, a < hs_m σ → b < hs_n σ → (a < h ∨ (a = h ∧ b < t)) → M.2.1 5 (7 * a + b) = if s_kn σ a b = true then L a b else 0) → l5.toInt = (t : Int) → t ≤ hs_n σ → hs_n σ - t < n → Ok (F_X10_weigh_L15 k3 n (some 4) (some e) (some s) rl l4 l5 M) P := by
  intro n
  induction n with
  | zero => intro t l5 M F Jx LS h5 ht hn; omega
  | succ n ih =>
    intro t l5 M F Jx LS h5 ht hn
    have X := k_X58 X0 F hs8 he
    have Y := k_Y_m Y0 F.1.1 F.1.2
    obtain ⟨⟨ke, ⟨e6, e7⟩, _⟩, ⟨⟨ks, k1, k2⟩, _⟩, ⟨r0, r1⟩, r2, r3⟩ := k_XE X
    have nn := s_Vn X.2.2
    show Ok (F_X10_weigh_b15 k3 (F_X10_weigh_L15 k3 n) (some 4) (some e) (some s) rl l4 l5 M) P
    delta F_X10_weigh_b15 F_X10_weigh_b127
    refine x_gI ke e6 ?_
    have c0 := i_le_n h5 nn.1.1
    by_cases c : hs_n σ ≤ t
    · rw [if_pos (c0.mpr c)]
      exact g M F Jx (fun a b ha hb p => LS a b ha hb (by omega))
    · have nx := i_nx h5 (by omega)
      have ix := k_ix h4 h5 (by omega) (by omega)
      rw [if_neg (fun z => c (c0.mp z))]
      refine x_gR ks r1 (x_aI k2 ix (by omega) (k_Xst X hh (t := t) (by omega)).1 ?_)
      have kp := (k_Xpos X hh (t := t) (by omega)).2
      have on : ∀ M', k_F58 M M' → J M' → M'.2.1 5 (7 * h + t) = (if s_kn σ h t = true then L h t else 0) → (∀ a, a ≠ 7 * h + t → M'.2.1 5 a = M.2.1 5 a) → Ok (F_X10_weigh_L15 k3 n (some 4) (some e) (some s) rl l4 (l5 + 1) M') P := by
        intro M' f' J' e' o'
        refine ih (t + 1) (k_58t F f') J' (fun a b ha hb p => ?_) nx (by omega) (by omega)
        by_cases eab : a = h ∧ b = t
        · obtain ⟨rfl, rfl⟩ := eab
          exact e'
        · rw [o' _ (by omega)]
          exact LS a b ha hb (by omega)
      by_cases k : s_kn σ h t = true
      · rw [if_neg (fun z => by rw [kp.mp z] at k; cases k)]
        exact LO M h t l4 l5 (fun l1 M' => F_X10_weigh_L15 k3 n (some 4) l1 (some s) rl l4 (l5 + 1) M') P X Y Jx h4 h5 hh (by omega) k (fun M' f' J' e' o' => on M' f' J' (by rw [if_pos k]; exact e') o')
      · rw [if_pos (kp.mpr (b_ff k))]
        refine x_gR Y.1.1.1 Y.2.1 (x_sI Y.1.1.2 ix (by omega) ?_)
        have f1 : k_F58 M (mI M 5 (7 * h + t) 0) := k_58I (by omega)
        exact on _ f1 (hJ _ _ Jx f1) (by rw [y_mI1, if_neg k]) (fun a ha => mI_ne (Or.inr ha))
theorem C_weigh {J : gM → Prop} {M : gM} {s e : Nat} {σ : Nat → Int32} {L : Nat → Nat → Int32} {rl : Option Nat} (hs8 : 8 < s) (he : 8 < e) (Y : k_Y M) (X : k_X M s e σ) (Jx : J M) (hJ : ∀ M M', J M → k_F58 M M' → J M') (LO : C_LO J s e σ L rl) : Ok (F_X10_weigh (some 4) (some e) (some s) rl M) (fun M2 => k_X M2 s e σ ∧ k_Y M2 ∧ k_Ls M2 σ L ∧ (J M2 ∧ k_F58 M M2)) := by
  have nn := s_Vn X.2.2
  have main : ∀ (n h : Nat) {l4 : Int32} {M1 : gM}, k_F58 M M1 → J M1 → (∀ a b, a < hs_m σ → b < hs_n σ → a < h → M1.2.1 5 (7 * a + b) = if s_kn σ a b = true then L a b else 0) → l4.toInt = (h : Int) → h ≤ hs_m σ → hs_m σ - h < n → Ok (F_X10_weigh_L3 n (some 4) (some e) (some s) rl l4 M1) (fun M2 => k_X M2 s e σ ∧ k_Y M2 ∧ k_Ls M2 σ L ∧ (J M2 ∧ k_F58 M M2)) := by
    intro n
    induction n with
    | zero => intro h l4 M1 F J1 LS h4 hh hn; omega
    | succ n ih =>
      intro h l4 M1 F J1 LS h4 hh hn
      have X1 := k_X58 X F hs8 he
      obtain ⟨⟨ke, ⟨e6, e7⟩, _⟩, _⟩ := k_XE X1
      show Ok (F_X10_weigh_b3 (F_X10_weigh_L3 n) (some 4) (some e) (some s) rl l4 M1) _
      delta F_X10_weigh_b3
      refine x_gI ke e7 ?_
      have c0 := i_le_n h4 nn.2.1
      by_cases c : hs_m σ ≤ h
      · rw [if_pos (c0.mpr c)]
        exact Ok_s ⟨X1, k_Y_m Y F.1.1 F.1.2, fun a b ha hb => LS a b ha hb (by omega), J1, F⟩
      · rw [if_neg (fun z => c (c0.mp z))]
        exact C_weigh_L15 hs8 he Y X hJ LO h4 (by omega) (fun M' F' J' LS' => ih (h + 1) F' J' LS' (i_nx h4 (by omega)) (by omega) (by omega)) g_fuel 0 (l5 := 0) F J1 (fun a b ha hb p => LS a b ha hb (by omega)) rfl (Nat.zero_le _) (n_fu (by omega))
  delta F_X10_weigh F_X10_weigh_b0
  exact main g_fuel 0 (l4 := 0) k_58r Jx (fun a b ha hb p => absurd p (Nat.not_lt_zero _)) rfl (Nat.zero_le _) (n_fu (by omega))
-- 7z9i.code
/-! what the steps of a RULE come to -/
def m_o (k : Nat) (x y : Int64) : Int64 :=
  if k = 2 then x + y else if k = 3 then x - y else if k = 4 then x * y else if k = 5 then (if (lg_cmp y (0 : Int64)) = 0 then (0 : Int64) else x / y) else if k = 6 then (if (lg_cmp y (0 : Int64)) = 0 then (0 : Int64) else x - x / y * y) else if k = 7 then (if 0 ≤ (lg_cmp x y) then (0 : Int64) else (1 : Int64)) else if k = 8 then (if 0 < (lg_cmp x y) then (0 : Int64) else (1 : Int64)) else if k = 9 then (if (lg_cmp x y) = 0 then (1 : Int64) else (0 : Int64)) else if k = 10 then (if (lg_cmp x y) < 0 then (0 : Int64) else (1 : Int64)) else if k = 11 then (if (lg_cmp x y) ≤ 0 then (0 : Int64) else (1 : Int64)) else if k = 12 then x &&& y else x ||| y
/-- steps, the newest first, that leave one value more; at most d wait at once -/
def m_Ec (w : Nat → Int64) (R : List (Nat × Int32) → Nat → Int64 → Prop) : Prop :=
  (∀ (v : Int32) (d : Nat), 0 ≤ v.toInt → v.toInt ≤ 99999 → 1 ≤ d → R [(0, v)] d v.toInt64) ∧
  (∀ (v : Int32) (d i : Nat), v.toInt = (i : Int) → i ≤ 13 → 1 ≤ d → R [(1, v)] d (w i)) ∧
  (∀ (s : List (Nat × Int32)) (d : Nat) (v : Int64), R s d v → R ((14, 0) :: s) d ((1 : Int64) - v)) ∧
  (∀ (k : Nat) (s1 s2 : List (Nat × Int32)) (d d2 : Nat) (v1 v2 : Int64), 2 ≤ k → k ≤ 13 → R s1 d v1 → R s2 d2 v2 → d2 + 1 ≤ d → R ((k, 0) :: (s2 ++ s1)) d (m_o k v1 v2))
def m_E (w : Nat → Int64) (g : List (Nat × Int32)) (d : Nat) (v : Int64) : Prop := ∀ R, m_Ec w R → R g d v
theorem E_num {w : Nat → Int64} (v : Int32) (d : Nat) (h1 : 0 ≤ v.toInt) (h2 : v.toInt ≤ 99999) (h3 : 1 ≤ d) : m_E w [(0, v)] d v.toInt64 := fun _ c => c.1 v d h1 h2 h3
theorem E_wrd {w : Nat → Int64} (v : Int32) (d i : Nat) (h1 : v.toInt = (i : Int)) (h2 : i ≤ 13) (h3 : 1 ≤ d) : m_E w [(1, v)] d (w i) := fun _ c => c.2.1 v d i h1 h2 h3
theorem E_no {w : Nat → Int64} (s : List (Nat × Int32)) (d : Nat) (v : Int64) (h : m_E w s d v) : m_E w ((14, 0) :: s) d ((1 : Int64) - v) := fun R c => c.2.2.1 s d v (h R c)
theorem E_bin {w : Nat → Int64} (k : Nat) (s1 s2 : List (Nat × Int32)) (d d2 : Nat) (v1 v2 : Int64) (k1 : 2 ≤ k) (k2 : k ≤ 13) (h1 : m_E w s1 d v1) (h2 : m_E w s2 d2 v2) (h3 : d2 + 1 ≤ d) : m_E w ((k, 0) :: (s2 ++ s1)) d (m_o k v1 v2) := fun R c => c.2.2.2 k s1 s2 d d2 v1 v2 k1 k2 (h1 R c) (h2 R c) h3
theorem m_Ei {w : Nat → Int64} {P : List (Nat × Int32) → Nat → Int64 → Prop} {g : List (Nat × Int32)} {d : Nat} {v : Int64}
    (num : ∀ (v : Int32) (d : Nat), 0 ≤ v.toInt → v.toInt ≤ 99999 → 1 ≤ d → P [(0, v)] d v.toInt64)
    (wrd : ∀ (v : Int32) (d i : Nat), v.toInt = (i : Int) → i ≤ 13 → 1 ≤ d → P [(1, v)] d (w i))
    (no : ∀ (s : List (Nat × Int32)) (d : Nat) (v : Int64), m_E w s d v → P s d v → P ((14, 0) :: s) d ((1 : Int64) - v))
    (bin : ∀ (k : Nat) (s1 s2 : List (Nat × Int32)) (d d2 : Nat) (v1 v2 : Int64), 2 ≤ k → k ≤ 13 → m_E w s1 d v1 → m_E w s2 d2 v2 → d2 + 1 ≤ d → P s1 d v1 → P s2 d2 v2 → P ((k, 0) :: (s2 ++ s1)) d (m_o k v1 v2))
    (h : m_E w g d v) : P g d v := by
  have z := h (fun g d v => m_E w g d v ∧ P g d v) ⟨fun v d h1 h2 h3 => ⟨E_num v d h1 h2 h3, num v d h1 h2 h3⟩, fun v d i h1 h2 h3 => ⟨E_wrd v d i h1 h2 h3, wrd v d i h1 h2 h3⟩, fun s d v h => ⟨E_no s d v h.1, no s d v h.1 h.2⟩, fun k s1 s2 d d2 v1 v2 k1 k2 h1 h2 h3 => ⟨E_bin k s1 s2 d d2 v1 v2 k1 k2 h1.1 h2.1 h3, bin k s1 s2 d d2 v1 v2 k1 k2 h1.1 h2.1 h3 h1.2 h2.2⟩⟩
  exact z.2
theorem m_Em {w : Nat → Int64} {s : List (Nat × Int32)} {d : Nat} {v : Int64} (h : m_E w s d v) : ∀ d', d ≤ d' → m_E w s d' v := by
  refine m_Ei (g := s) (d := d) (v := v) (P := fun s d v => ∀ d', d ≤ d' → m_E w s d' v) ?_ ?_ ?_ ?_ h
  · exact fun v d h1 h2 h3 d' h => E_num v d' h1 h2 (by omega)
  · exact fun v d i h1 h2 h3 d' h => E_wrd v d' i h1 h2 (by omega)
  · exact fun s d v _ ih d' h => E_no s d' v (ih d' h)
  · exact fun k s1 s2 d d2 v1 v2 h1 h2 _ e2 h3 ih1 _ d' h => E_bin k s1 s2 d' d2 v1 v2 h1 h2 (ih1 d' h) e2 (by omega)
theorem m_Ene {w : Nat → Int64} {s : List (Nat × Int32)} {d : Nat} {v : Int64} (h : m_E w s d v) : 1 ≤ s.length ∧ 1 ≤ d := by
  refine m_Ei (g := s) (d := d) (v := v) (P := fun s d _ => 1 ≤ s.length ∧ 1 ≤ d) ?_ ?_ ?_ ?_ h
  · exact fun v d h1 h2 h3 => ⟨Nat.le_refl _, h3⟩
  · exact fun v d i h1 h2 h3 => ⟨Nat.le_refl _, h3⟩
  · exact fun s d v _ ih => ⟨by simp, ih.2⟩
  · exact fun k s1 s2 d d2 v1 v2 h1 h2 _ e2 h3 ih1 _ => ⟨by simp, ih1.2⟩
/-- whatever the words are: a value; of a TEST 0 or 1 -/
def m_A (d : Nat) (b : Bool) (g : List (Nat × Int32)) : Prop := ∀ w : Nat → Int64, ∃ v, m_E w g d v ∧ (b = true → v = 0 ∨ v = 1)
theorem m_Ad {d d' : Nat} {b : Bool} {g : List (Nat × Int32)} (h : m_A d b g) (hd : d ≤ d') : m_A d' b g := fun w => by
  obtain ⟨v, e, z⟩ := h w
  exact ⟨v, m_Em e d' hd, z⟩
theorem m_A1 {k d d2 : Nat} {b : Bool} {s1 s2 : List (Nat × Int32)} (k1 : 2 ≤ k) (k2 : k ≤ 13) (hb : b = true → k = 12 ∨ k = 13) (h1 : m_A d b s1) (h2 : m_A d2 b s2) (hd : d2 + 1 ≤ d) : m_A d b ((k, 0) :: (s2 ++ s1)) := by
  intro w
  obtain ⟨v1, e1, z1⟩ := h1 w
  obtain ⟨v2, e2, z2⟩ := h2 w
  refine ⟨_, E_bin k s1 s2 d d2 v1 v2 k1 k2 e1 e2 hd, fun h => ?_⟩
  rcases hb h with c | c <;> subst c <;> rcases z1 h with c1 | c1 <;> rcases z2 h with c2 | c2 <;> subst c1 <;> subst c2 <;> decide
theorem m_Ac {k d d2 : Nat} {b1 b2 : Bool} {s1 s2 : List (Nat × Int32)} (k1 : 7 ≤ k) (k2 : k ≤ 11) (h1 : m_A d b1 s1) (h2 : m_A d2 b2 s2) (hd : d2 + 1 ≤ d) : m_A d true ((k, 0) :: (s2 ++ s1)) := by
  intro w
  obtain ⟨v1, e1, _⟩ := h1 w
  obtain ⟨v2, e2, _⟩ := h2 w
  refine ⟨_, E_bin k s1 s2 d d2 v1 v2 (by omega) (by omega) e1 e2 hd, fun _ => ?_⟩
  have go : ∀ {c : Prop} [Decidable c] {x y : Int64}, (x = 0 ∨ x = 1) → (y = 0 ∨ y = 1) → ((if c then x else y) = 0 ∨ (if c then x else y) = 1) := by
    intro c _ x y hx hy
    by_cases e : c
    · rw [if_pos e]; exact hx
    · rw [if_neg e]; exact hy
  rcases (by omega : k = 7 ∨ k = 8 ∨ k = 9 ∨ k = 10 ∨ k = 11) with c | c | c | c | c <;> subst c
  · exact go (c := 0 ≤ (lg_cmp v1 v2)) (Or.inl rfl) (Or.inr rfl)
  · exact go (c := 0 < (lg_cmp v1 v2)) (Or.inl rfl) (Or.inr rfl)
  · exact go (c := (lg_cmp v1 v2) = 0) (Or.inr rfl) (Or.inl rfl)
  · exact go (c := (lg_cmp v1 v2) < 0) (Or.inl rfl) (Or.inr rfl)
  · exact go (c := (lg_cmp v1 v2) ≤ 0) (Or.inl rfl) (Or.inr rfl)
theorem m_An {d : Nat} {s : List (Nat × Int32)} (h : m_A d true s) : m_A d true ((14, 0) :: s) := by
  intro w
  obtain ⟨v, e, z⟩ := h w
  refine ⟨_, E_no s d v e, fun _ => ?_⟩
  rcases z rfl with c | c <;> subst c <;> decide
/-- what is read leaves such steps -/
def m_J (P : List (Nat × Int32) → Prop) (x : sS) (r : s_R) : Prop := match r with
  | .inl _ => True
  | .inr y => ∃ g, y.2.2 = g ++ x.2.2 ∧ P g
theorem m_Jx {P : List (Nat × Int32) → Prop} {x x' : sS} {r : s_R} (e : x'.2.2 = x.2.2) (h : m_J P x' r) : m_J P x r := by
  unfold m_J at h ⊢
  rw [← e]
  exact h
theorem m_Jm {P Q : List (Nat × Int32) → Prop} {x : sS} {r : s_R} (e : ∀ g, P g → Q g) (h : m_J P x r) : m_J Q x r := by
  cases r with
  | inl _ => trivial
  | inr y =>
    obtain ⟨g, e1, e2⟩ := h
    exact ⟨g, e1, e g e2⟩
theorem i_of13 : ∀ i : Fin 14, (Int32.ofInt (i.val : Int)).toInt = i.val := by decide
theorem J_val {T : gM} {x : sS} : m_J (m_A 1 false) x (s_val T x) := by
  unfold s_val
  by_cases c1 : n_D T x.1 = true
  · rw [if_pos c1]
    by_cases c2 : n_ok T x.1 0 99999 = true
    · rw [if_pos c2]
      by_cases c3 : x.2.1 = 60
      · rw [if_pos c3]; trivial
      · rw [if_neg c3]
        have := n_v_r (M := T) (p := x.1)
        exact ⟨[(0, n_v T x.1)], rfl, fun w => ⟨_, E_num _ 1 this.1 this.2 (Nat.le_refl _), fun h => by cases h⟩⟩
    · rw [if_neg c2]; trivial
  · rw [if_neg c1]
    by_cases c2 : 261 ≤ k_kind T x.1 ∧ k_kind T x.1 ≤ 274
    · rw [if_pos c2]
      by_cases c3 : x.2.1 = 60
      · rw [if_pos c3]; trivial
      · rw [if_neg c3]
        have e := i_of13 ⟨(k_kind T x.1 - 261).toNat, by omega⟩
        dsimp only at e
        rw [show (((k_kind T x.1 - 261).toNat : Nat) : Int) = k_kind T x.1 - 261 by omega] at e
        exact ⟨[(1, Int32.ofInt (k_kind T x.1 - 261))], rfl, fun w => ⟨_, E_wrd _ 1 (k_kind T x.1 - 261).toNat (by omega) (by omega) (Nat.le_refl _), fun h => by cases h⟩⟩
    · rw [if_neg c2]; trivial
/-- what joins -/
theorem s_jo_k {what : Nat} {k : Int} (h : s_jo what k ≠ 0) : (2 ≤ s_jo what k ∧ s_jo what k ≤ 13) ∧ (what ≤ 1 → s_jo what k = 12 ∨ s_jo what k = 13) := by
  unfold s_jo at h ⊢
  by_cases e0 : k = 37
  · simp only [if_pos e0] at h ⊢
    by_cases w : what = 3
    · simp only [if_pos w] at h ⊢
      omega
    · simp only [if_neg w] at h
      exact absurd rfl h
  simp only [if_neg e0] at h ⊢
  by_cases e1 : k = 42
  · simp only [if_pos e1] at h ⊢
    by_cases w : what = 3
    · simp only [if_pos w] at h ⊢
      omega
    · simp only [if_neg w] at h
      exact absurd rfl h
  simp only [if_neg e1] at h ⊢
  by_cases e2 : k = 43
  · simp only [if_pos e2] at h ⊢
    by_cases w : what = 2
    · simp only [if_pos w] at h ⊢
      omega
    · simp only [if_neg w] at h
      exact absurd rfl h
  simp only [if_neg e2] at h ⊢
  by_cases e3 : k = 45
  · simp only [if_pos e3] at h ⊢
    by_cases w : what = 2
    · simp only [if_pos w] at h ⊢
      omega
    · simp only [if_neg w] at h
      exact absurd rfl h
  simp only [if_neg e3] at h ⊢
  by_cases e4 : k = 47
  · simp only [if_pos e4] at h ⊢
    by_cases w : what = 3
    · simp only [if_pos w] at h ⊢
      omega
    · simp only [if_neg w] at h
      exact absurd rfl h
  simp only [if_neg e4] at h ⊢
  by_cases e5 : k = 281
  · simp only [if_pos e5] at h ⊢
    by_cases w : what = 1
    · simp only [if_pos w] at h ⊢
      exact ⟨⟨by decide, by decide⟩, fun _ => Or.inl trivial⟩
    · simp only [if_neg w] at h
      exact absurd rfl h
  simp only [if_neg e5] at h ⊢
  by_cases e6 : k = 282
  · simp only [if_pos e6] at h ⊢
    by_cases w : what = 0
    · simp only [if_pos w] at h ⊢
      exact ⟨⟨by decide, by decide⟩, fun _ => Or.inr trivial⟩
    · simp only [if_neg w] at h
      exact absurd rfl h
  simp only [if_neg e6] at h
  exact absurd rfl h
theorem J_loop {T : gM} {what d : Nat} {b : Bool} {item : sS → s_R} (hi : ∀ x, m_J (m_A d b) x (item x)) (hb : b = true → what ≤ 1) (x0 : sS) : ∀ (n : Nat) (x : sS), (∃ g, x.2.2 = g ++ x0.2.2 ∧ m_A (d + 1) b g) → m_J (m_A (d + 1) b) x0 (s_loop T what item n x) := by
  intro n
  induction n with
  | zero => intro x h; exact h
  | succ n ih =>
    intro x h
    unfold s_loop
    by_cases c : s_jo what (k_kind T x.1) = 0
    · rw [if_pos c]
      exact h
    · rw [if_neg c]
      have z := hi (k_go T x.1, x.2)
      cases hit : item (k_go T x.1, x.2) with
      | inl e => trivial
      | inr y =>
        rw [hit] at z
        obtain ⟨g2, e2, a2⟩ := z
        obtain ⟨g1, e1, a1⟩ := h
        have k := s_jo_k c
        refine ih _ ⟨(s_jo what (k_kind T x.1), 0) :: (g2 ++ g1), ?_, m_A1 k.1.1 k.1.2 (fun h => k.2 (hb h)) a1 a2 (Nat.le_refl _)⟩
        show (s_jo what (k_kind T x.1), 0) :: y.2.2 = _
        rw [e2, e1]
        simp
theorem J_join {T : gM} {what d : Nat} {b : Bool} {item : sS → s_R} (hi : ∀ x, m_J (m_A d b) x (item x)) (hb : b = true → what ≤ 1) (x : sS) : m_J (m_A (d + 1) b) x (s_join T what item x) := by
  unfold s_join
  have z := hi x
  cases hit : item x with
  | inl e => trivial
  | inr y =>
    rw [hit] at z
    obtain ⟨g, e, a⟩ := z
    exact J_loop hi hb x 402 y ⟨g, e, m_Ad a (by omega)⟩
theorem J_term {T : gM} (x : sS) : m_J (m_A 2 false) x (s_term T x) := J_join (fun _ => J_val) (fun h => by cases h) x
theorem J_sum {T : gM} (x : sS) : m_J (m_A 3 false) x (s_sum T x) := J_join J_term (fun h => by cases h) x
theorem s_co_k {k : Int} (h : s_co k ≠ 0) : 7 ≤ s_co k ∧ s_co k ≤ 11 := by
  unfold s_co at h ⊢
  by_cases e0 : k = 60
  · simp only [if_pos e0]; omega
  simp only [if_neg e0] at h ⊢
  by_cases e1 : k = 61
  · simp only [if_pos e1]; omega
  simp only [if_neg e1] at h ⊢
  by_cases e2 : k = 62
  · simp only [if_pos e2]; omega
  simp only [if_neg e2] at h ⊢
  by_cases e3 : k = 258
  · simp only [if_pos e3]; omega
  simp only [if_neg e3] at h ⊢
  by_cases e4 : k = 259
  · simp only [if_pos e4]; omega
  simp only [if_neg e4] at h
  exact absurd rfl h
theorem J_cmp {T : gM} (x : sS) : m_J (m_A 4 true) x (s_cmp T x) := by
  unfold s_cmp
  have z := J_sum (T := T) x
  cases hit : s_sum T x with
  | inl e => trivial
  | inr y =>
    rw [hit] at z
    obtain ⟨g1, e1, a1⟩ := z
    show m_J (m_A 4 true) x (s_cmp2 T y)
    unfold s_cmp2
    by_cases c0 : s_co (k_kind T y.1) = 0
    · rw [if_pos c0]; trivial
    rw [if_neg c0]
    by_cases c1 : y.2.1 = 60
    · rw [if_pos c1]; trivial
    rw [if_neg c1]
    have z := J_sum (T := T) (k_go T y.1, y.2.1 + 1, y.2.2)
    cases hit2 : s_sum T (k_go T y.1, y.2.1 + 1, y.2.2) with
    | inl e => trivial
    | inr y2 =>
      rw [hit2] at z
      obtain ⟨g2, e2, a2⟩ := z
      have k := s_co_k c0
      refine ⟨(s_co (k_kind T y.1), 0) :: (g2 ++ g1), ?_, m_Ac k.1 k.2 (m_Ad a1 (by omega)) a2 (Nat.le_refl _)⟩
      show (s_co (k_kind T y.1), 0) :: y2.2.2 = _
      rw [e2]
      show (s_co (k_kind T y.1), 0) :: (g2 ++ y.2.2) = _
      rw [e1]
      simp
theorem J_fact {T : gM} : ∀ (n d : Nat) (x : sS), m_J (m_A (4 + 2 * n) true) x (s_fact T n d x) := by
  intro n
  induction n with
  | zero => intro d x; trivial
  | succ n ih =>
    intro d x
    unfold s_fact
    by_cases c1 : k_kind T x.1 = 91
    · rw [if_pos c1]
      by_cases c2 : 10 ≤ d
      · rw [if_pos c2]; trivial
      rw [if_neg c2]
      have z := J_join (T := T) (what := 0) (J_join (T := T) (what := 1) (ih (d + 1)) (fun _ => by omega)) (fun _ => by omega) (k_go T x.1, x.2)
      cases hit : s_join T 0 (s_join T 1 (s_fact T n (d + 1))) (k_go T x.1, x.2) with
      | inl e => trivial
      | inr y =>
        rw [hit] at z
        show m_J _ x (s_close T y)
        unfold s_close
        by_cases c3 : k_kind T y.1 = 93
        · rw [if_pos c3]
          exact z
        · rw [if_neg c3]; trivial
    rw [if_neg c1]
    by_cases c2 : k_kind T x.1 = 280
    · rw [if_pos c2]
      by_cases c3 : 10 ≤ d
      · rw [if_pos c3]; trivial
      rw [if_neg c3]
      have z := ih (d + 1) (k_go T x.1, x.2)
      cases hit : s_fact T n (d + 1) (k_go T x.1, x.2) with
      | inl e => trivial
      | inr y =>
        rw [hit] at z
        obtain ⟨g, e, a⟩ := z
        refine ⟨(14, 0) :: g, ?_, m_An (m_Ad a (by omega))⟩
        show (14, 0) :: y.2.2 = _
        rw [e]
        rfl
    rw [if_neg c2]
    exact m_Jm (fun g h => m_Ad h (by omega)) (J_cmp x)
theorem J_tested {T : gM} (x : sS) : m_J (m_A 28 true) x (s_J T 0 0 x) := J_join (what := 0) (J_join (what := 1) (fun x => J_fact 11 0 x) (fun _ => by omega)) (fun _ => by omega) x
-- 7z9j.marks
/-! a RULE: its steps, its CLAUSES' marks -/
def m_sg (o : List (Nat × Int32)) (i j : Nat) (g : List (Nat × Int32)) : Prop := ∃ p s, o = p ++ (g ++ s) ∧ s.length = i ∧ g.length + i = j
theorem m_sg_c {o o' g : List (Nat × Int32)} {i j : Nat} (h : m_sg o i j g) (q : List (Nat × Int32)) (e : o' = q ++ o) : m_sg o' i j g := by
  obtain ⟨p, s, e1, e2, e3⟩ := h
  exact ⟨q ++ p, s, by rw [e, e1, List.append_assoc], e2, e3⟩
theorem m_sg_le {o g : List (Nat × Int32)} {i j : Nat} (h : m_sg o i j g) : i ≤ j ∧ j ≤ o.length := by
  obtain ⟨p, s, e1, e2, e3⟩ := h
  rw [e1]
  simp
  omega
/-- a CLAUSE's -/
def m_mk (o : List (Nat × Int32)) (m : Nat × Nat × Nat) : Prop := (∃ g, m_sg o m.1 m.2.1 g ∧ m_A 3 false g) ∧ (m.2.1 = m.2.2 ∨ ∃ g, m_sg o m.2.1 m.2.2 g ∧ m_A 28 true g)
theorem m_mk_c {o o' : List (Nat × Int32)} {m : Nat × Nat × Nat} (h : m_mk o m) (q : List (Nat × Int32)) (e : o' = q ++ o) : m_mk o' m := by
  obtain ⟨⟨g, h1, h2⟩, h3⟩ := h
  refine ⟨⟨g, m_sg_c h1 q e, h2⟩, ?_⟩
  rcases h3 with h3 | ⟨g2, h3, h4⟩
  · exact Or.inl h3
  · exact Or.inr ⟨g2, m_sg_c h3 q e, h4⟩
def m_R (o : List (Nat × Int32)) (ms : List (Nat × Nat × Nat)) : Prop := ∀ m, m ∈ ms → m_mk o m
theorem m_clause {T : gM} {cl : Nat} {x y : sS} {m : Nat × Nat × Nat} (h : s_cl T cl x = .inr (y, m)) : cl ≤ 12 ∧ ∃ g, y.2.2 = g ++ x.2.2 ∧ m_mk y.2.2 m := by
  unfold s_cl at h
  by_cases c1 : k_kind T x.1 ≠ 278
  · rw [if_pos c1] at h
    cases h
  rw [if_neg c1] at h
  by_cases c2 : 12 < cl
  · rw [if_pos c2] at h
    cases h
  rw [if_neg c2] at h
  refine ⟨by omega, ?_⟩
  have z := J_sum (T := T) (k_go T x.1, x.2)
  cases hit : s_sum T (k_go T x.1, x.2) with
  | inl e =>
    rw [hit] at h
    cases h
  | inr u =>
    rw [hit] at h z
    obtain ⟨g1, e1, a1⟩ := z
    dsimp only at h
    have l1 := congrArg List.length e1
    rw [List.length_append] at l1
    have l1' : u.2.2.length = g1.length + x.2.2.length := l1
    have s1 : m_sg u.2.2 x.2.2.length u.2.2.length g1 := ⟨[], x.2.2, e1, rfl, by omega⟩
    by_cases c3 : k_kind T u.1 = 279
    · rw [if_pos c3] at h
      have z := J_tested (T := T) (k_go T u.1, u.2)
      cases hit2 : s_J T 0 0 (k_go T u.1, u.2) with
      | inl e =>
        rw [hit2] at h
        cases h
      | inr v =>
        rw [hit2] at h z
        obtain ⟨g2, e2, a2⟩ := z
        have e2' : v.2.2 = g2 ++ u.2.2 := e2
        have l2 := congrArg List.length e2'
        rw [List.length_append] at l2
        dsimp only at h
        have hl : g2.length + u.2.2.length = v.2.2.length := by omega
        have fin : ∃ g, v.2.2 = g ++ x.2.2 ∧ m_mk v.2.2 (x.2.2.length, u.2.2.length, v.2.2.length) := ⟨g2 ++ g1, by rw [e2', e1, List.append_assoc], ⟨⟨g1, m_sg_c s1 g2 e2', a1⟩, Or.inr ⟨g2, ⟨[], u.2.2, e2', rfl, hl⟩, a2⟩⟩⟩
        cases h
        exact fin
    · rw [if_neg c3] at h
      have fin : ∃ g, u.2.2 = g ++ x.2.2 ∧ m_mk u.2.2 (x.2.2.length, u.2.2.length, u.2.2.length) := ⟨g1, e1, ⟨g1, s1, a1⟩, Or.inl rfl⟩
      cases h
      exact fin
theorem m_tl {T : gM} : ∀ (n cl : Nat) {x y : sS} {ms ms' : List (Nat × Nat × Nat)}, s_tl T n cl x ms = .inr (y, ms') → cl = ms.length + 1 → m_R x.2.2 ms → m_R y.2.2 ms' ∧ (1 ≤ ms'.length ∧ ms'.length ≤ 12) := by
  intro n
  induction n with
  | zero => intro cl x y ms ms' h _ _; cases h
  | succ n ih =>
    intro cl x y ms ms' h hc hR
    unfold s_tl at h
    cases hit : s_cl T cl x with
    | inl e =>
      rw [hit] at h
      cases h
    | inr um =>
      obtain ⟨u, m⟩ := um
      rw [hit] at h
      obtain ⟨h12, g, e, hm⟩ := m_clause hit
      have hR2 : m_R u.2.2 (m :: ms) := by
        intro m' hm'
        rcases List.mem_cons.mp hm' with e' | e'
        · rw [e']; exact hm
        · exact m_mk_c (hR m' e') g e
      dsimp only at h
      by_cases c1 : k_kind T u.1 = 256
      · rw [if_pos c1] at h
        cases h
        exact ⟨hR2, by simp, by simp; omega⟩
      rw [if_neg c1] at h
      by_cases c2 : k_kind T u.1 = 59
      · rw [if_pos c2] at h
        exact ih (cl + 1) h (by simp; omega) hR2
      · rw [if_neg c2] at h
        cases h
theorem m_text {T : gM} {y : sS} {ms : List (Nat × Nat × Nat)} (h : s_text T = .inr (y, ms)) : m_R y.2.2 ms ∧ (1 ≤ ms.length ∧ ms.length ≤ 12) := m_tl 14 1 h rfl (fun m hm => by cases hm)
/-- the steps in their places -/
def m_L (e : Nat × Int32 → Int32) (f : Nat → Int32) (i : Nat) : List (Nat × Int32) → Prop
  | [] => True
  | a :: o => f (i + o.length) = e a ∧ m_L e f i o
theorem m_L_app {e : Nat × Int32 → Int32} {f : Nat → Int32} {i : Nat} {g1 : List (Nat × Int32)} : ∀ {g2 : List (Nat × Int32)}, m_L e f i (g2 ++ g1) → m_L e f (i + g1.length) g2 ∧ m_L e f i g1 := by
  intro g2
  induction g2 with
  | nil => intro h; exact ⟨trivial, h⟩
  | cons a g2 ih =>
    intro h
    obtain ⟨h1, h2⟩ := h
    have := ih h2
    refine ⟨⟨?_, this.1⟩, this.2⟩
    have h1 : f (i + (g2 ++ g1).length) = e a := h1
    rw [List.length_append] at h1
    rw [show i + g1.length + g2.length = i + (g2.length + g1.length) by omega]
    exact h1
theorem m_L0 {e : Nat × Int32 → Int32} {f : Nat → Int32} {s : List (Nat × Int32)} : ∀ {g : List (Nat × Int32)}, m_L e f 0 (g ++ s) → m_L e f s.length g := by
  intro g h
  have := (m_L_app h).1
  rw [Nat.zero_add] at this
  exact this
theorem m_L_sg {e : Nat × Int32 → Int32} {f : Nat → Int32} {o g : List (Nat × Int32)} {i j : Nat} (h : m_L e f 0 o) (s : m_sg o i j g) : m_L e f i g := by
  obtain ⟨p, s, e1, e2, e3⟩ := s
  rw [e1] at h
  have := (m_L_app h).2
  rw [← e2]
  exact m_L0 this
theorem m_L_f {e : Nat × Int32 → Int32} {f f' : Nat → Int32} {i : Nat} : ∀ {g : List (Nat × Int32)}, m_L e f i g → (∀ j, i ≤ j → j < i + g.length → f' j = f j) → m_L e f' i g := by
  intro g
  induction g with
  | nil => intro _ _; trivial
  | cons a g ih =>
    intro h hf
    refine ⟨?_, ih h.2 (fun j h1 h2 => hf j h1 (by simp; omega))⟩
    rw [hf _ (by omega) (by simp)]
    exact h.1
theorem m_c_O {f : Nat → Int32} : ∀ {o : List (Nat × Int32)}, c_O f o → m_L e_c f 0 o := by
  intro o
  induction o with
  | nil => intro _; trivial
  | cons a o ih =>
    intro h
    refine ⟨?_, ih h.2⟩
    rw [Nat.zero_add]
    exact h.1
theorem m_r_O {f : Nat → Int32} : ∀ {o : List (Nat × Int32)}, r_O f o → m_L e_r f 0 o := by
  intro o
  induction o with
  | nil => intro _; trivial
  | cons a o ih =>
    intro h
    refine ⟨?_, ih h.2⟩
    rw [Nat.zero_add]
    exact h.1
/-- values that wait -/
def m_K (f : Nat → Int64) : List Int64 → Prop
  | [] => True
  | a :: o => f o.length = a ∧ m_K f o
theorem m_K_c {f g : Nat → Int64} : ∀ {o : List Int64}, (∀ q, q < o.length → g q = f q) → m_K f o → m_K g o := by
  intro o
  induction o with
  | nil => intro _ _; trivial
  | cons a o ih =>
    intro h hc
    exact ⟨(h o.length (by simp)).trans hc.1, ih (fun q hq => h q (by simp; omega)) hc.2⟩
-- 7z9k.crun
/-! the class runs steps -/
theorem i_shr4 {x : Int32} : (x >>> ((4 : Int32) &&& 31)).toInt = x.toInt / 16 := by
  have e : (x >>> ((4 : Int32) &&& 31)).toBitVec = x.toBitVec.sshiftRight 4 := rfl
  show (x >>> ((4 : Int32) &&& 31)).toBitVec.toInt = _
  rw [e, BitVec.toInt_sshiftRight, Int.shiftRight_eq_div_pow]
  rfl
theorem i_nnx {x : Int32} (h : 0 ≤ x.toInt) : x.toInt = (x.toBitVec.toNat : Int) := by
  show x.toBitVec.toInt = _
  rw [BitVec.toInt_eq_toNat_cond]
  have h2 : 0 ≤ x.toBitVec.toInt := h
  rw [BitVec.toInt_eq_toNat_cond] at h2
  split
  · rfl
  · rename_i h3
    rw [if_neg h3] at h2
    have := x.toBitVec.isLt
    omega
theorem e_c_i {k : Nat} {v : Int32} (hk : k ≤ 14) (h0 : 0 ≤ v.toInt) (h1 : v.toInt ≤ 99999) : (e_c (k, v)).toInt = 16 * v.toInt + k := by
  have e1 := i_nnx h0
  have e : (e_c (k, v)).toBitVec = BitVec.ofNat 32 k ||| (v.toBitVec <<< (4 : Nat)) := rfl
  have e2 : (e_c (k, v)).toBitVec.toNat = 16 * v.toBitVec.toNat + k := by
    rw [e, BitVec.toNat_or, BitVec.toNat_shiftLeft, BitVec.toNat_ofNat, Nat.mod_eq_of_lt (show k < 2 ^ 32 by omega), Nat.mod_eq_of_lt (by rw [Nat.shiftLeft_eq]; omega), Nat.or_comm, ← Nat.shiftLeft_add_eq_or_of_lt (show k < 2 ^ 4 by omega), Nat.shiftLeft_eq]
    omega
  show (e_c (k, v)).toBitVec.toInt = _
  rw [BitVec.toInt_eq_toNat_of_lt (by omega), e2]
  omega
/-- a step, taken apart -/
theorem e_c_b {k : Nat} {v : Int32} (hk : k ≤ 14) (h0 : 0 ≤ v.toInt) (h1 : v.toInt ≤ 99999) : (e_c (k, v)) &&& (15 : Int32) = Int32.ofNat k ∧ (e_c (k, v)) >>> ((4 : Int32) &&& 31) = v := by
  have e := e_c_i hk h0 h1
  constructor
  · refine Int32.toInt_inj.mp ?_
    rw [i_and15 (by omega), i_ofNat (by omega)]
    omega
  · refine Int32.toInt_inj.mp ?_
    rw [i_shr4]
    omega
/-- the reckoner's things -/
def k_Z (M : gM) : Prop := ((g_k M 6 = (5, 0) ∧ g_k M 7 = (21, 32)) ∧ g_k M 8 = (21, 14)) ∧ (M.2.2.2 6 0 = some 7 ∧ M.2.2.2 6 1 = some 8)
/-- only the stack moved -/
def k_Fz (M M' : gM) : Prop := (M'.1 = M.1 ∧ M'.2.2.2 = M.2.2.2) ∧ (∀ i, i ≠ 6 → M'.2.1 i = M.2.1 i) ∧ (∀ i, i ≠ 7 → M'.2.2.1 i = M.2.2.1 i)
theorem k_zr {M : gM} : k_Fz M M := ⟨⟨rfl, rfl⟩, fun _ _ => rfl, fun _ _ => rfl⟩
theorem k_zt {M M1 M2 : gM} (h1 : k_Fz M M1) (h2 : k_Fz M1 M2) : k_Fz M M2 := ⟨⟨h2.1.1.trans h1.1.1, h2.1.2.trans h1.1.2⟩, fun i h => (h2.2.1 i h).trans (h1.2.1 i h), fun i h => (h2.2.2 i h).trans (h1.2.2 i h)⟩
theorem k_zI {M : gM} {k : Nat} {v : Int32} : k_Fz M (mI M 6 k v) := ⟨⟨rfl, rfl⟩, fun _ hj => g_up_ne _ _ _ hj, fun _ _ => rfl⟩
theorem k_zL {M : gM} {k : Nat} {v : Int64} : k_Fz M (mL M 7 k v) := ⟨⟨rfl, rfl⟩, fun _ _ => rfl, fun _ hj => g_up_ne _ _ _ hj⟩
theorem k_zZ {M M' : gM} (Z : k_Z M) (f : k_Fz M M') : k_Z M' := by
  have hk : ∀ i, g_k M' i = g_k M i := fun i => q_k_of f.1.1
  unfold k_Z at Z ⊢
  simp only [hk, f.1.2]
  exact Z
def k_st (M : gM) (st : List Int64) : Prop := (M.2.1 6 2).toInt = (st.length : Int) ∧ m_K (M.2.2.1 7) st
theorem t_sL {i n : Nat} {j : Int32} {v : Int64} {M : gM} (h : g_k M i = (21, n)) (h0 : 0 ≤ j.toInt) (h1 : j.toInt < (n : Int)) : sL M (some i) j v = some (mL M i j.toNatClampNeg v) := by
  unfold sL
  rw [Option.bind_some, if_pos ⟨by rw [h], by rw [h]; exact gin_of h0 h1⟩]
theorem t_aL {i n : Nat} {j : Int32} {M : gM} (h : g_k M i = (21, n)) (h0 : 0 ≤ j.toInt) (h1 : j.toInt < (n : Int)) : aL M (some i) j = some (M.2.2.1 i j.toNatClampNeg) := by
  unfold aL
  rw [Option.bind_some, if_pos ⟨by rw [h], by rw [h]; exact gin_of h0 h1⟩]
theorem y_mL1 {M : gM} {i k : Nat} {v : Int64} : (mL M i k v).2.2.1 i k = v := by
  show g_up M.2.2.1 i k v i k = v
  unfold g_up
  rw [if_pos rfl, if_pos rfl]
theorem mL_ne {M : gM} {i j k a : Nat} {v : Int64} (h : j ≠ i ∨ a ≠ k) : (mL M i k v).2.2.1 j a = M.2.2.1 j a := by
  show g_up M.2.2.1 i k v j a = _
  unfold g_up
  by_cases c : j = i
  · rw [if_pos c, if_neg (by omega), c]
  · rw [if_neg c]
theorem C_push {M : gM} {st : List Int64} {v : Int64} (Z : k_Z M) (S : k_st M st) (h : st.length < 32) : Ok (F_X5_push (some 6) v M) (fun M' => k_Fz M M' ∧ k_st M' (v :: st)) := by
  obtain ⟨⟨⟨k6, k7⟩, k8⟩, r0, r1⟩ := Z
  have cl := i_cl S.1
  have z32 : (32 : Int32).toInt = 32 := rfl
  delta F_X5_push F_X5_push_b0
  rw [t_gI k6, Option.bind_some, if_neg (fun z => by have := i_le z; have := S.1; omega), t_gR k6 r0, Option.bind_some, Option.bind_some, t_sL k7 (by have := S.1; omega) (by have := S.1; omega), Option.bind_some, cl]
  have k6' : g_k (mL M 7 st.length v) 6 = (5, 0) := k6
  have e2 : (mL M 7 st.length v).2.1 6 2 = M.2.1 6 2 := rfl
  rw [t_gI k6', Option.bind_some, t_pI k6', Option.bind_some, e2, n_inc S.1 (by omega)]
  refine Ok_s ⟨k_zt k_zL k_zI, by rw [y_mI1, i_ofNat (by omega)]; rfl, ?_⟩
  refine ⟨y_mL1, m_K_c (fun q hq => ?_) S.2⟩
  exact mL_ne (Or.inr (by omega))
theorem C_pop {M : gM} {st : List Int64} {v : Int64} (Z : k_Z M) (S : k_st M (v :: st)) (h : st.length < 32) : Ok (F_X5_pop (some 6) M) (fun r => r.1 = v ∧ k_Fz M r.2 ∧ k_st r.2 st) := by
  obtain ⟨⟨⟨k6, k7⟩, k8⟩, r0, r1⟩ := Z
  have s1 : (M.2.1 6 2).toInt = ((st.length + 1 : Nat) : Int) := S.1
  have z1 : (1 : Int32).toInt = 1 := rfl
  have a := i_subc (x := M.2.1 6 2) (c := (1 : Int32)) (n := 1) rfl (by omega) (by omega)
  have al : (M.2.1 6 2 - (1 : Int32)).toInt = (st.length : Int) := by omega
  delta F_X5_pop F_X5_pop_b0
  have k6' : g_k (mI M 6 2 (M.2.1 6 2 - (1 : Int32))) 6 = (5, 0) := k6
  have k7' : g_k (mI M 6 2 (M.2.1 6 2 - (1 : Int32))) 7 = (21, 32) := k7
  rw [t_gI k6, Option.bind_some, if_pos (Int32.le_iff_toInt_le.mpr (by omega)), Option.bind_some, t_pI k6, Option.bind_some, t_gR k6' r0, Option.bind_some, t_gI k6', Option.bind_some, y_mI1, t_aL k7' (by omega) (by omega), Option.bind_some, i_cl al]
  exact Ok_s ⟨S.2.1, k_zI, by rw [y_mI1]; exact al, S.2.2⟩
theorem C_joined {k : Nat} {x y : Int64} {M : gM} (h1 : 2 ≤ k) (h2 : k ≤ 13) : F_X5_joined (Int32.ofNat k) x y M = some (m_o k x y) := by
  delta F_X5_joined F_X5_joined_b0
  have go : ∀ (c : Nat), c ≤ 14 → ((Int32.ofNat k = Int32.ofNat c) ↔ k = c) := fun c hc => ⟨fun e => by
    have := congrArg Int32.toInt e
    rw [i_ofNat (by omega), i_ofNat (by omega)] at this
    omega, fun e => by rw [e]⟩
  have g2 : (Int32.ofNat k = (2 : Int32)) ↔ k = 2 := go 2 (by decide)
  have g3 : (Int32.ofNat k = (3 : Int32)) ↔ k = 3 := go 3 (by decide)
  have g4 : (Int32.ofNat k = (4 : Int32)) ↔ k = 4 := go 4 (by decide)
  have g5 : (Int32.ofNat k = (5 : Int32)) ↔ k = 5 := go 5 (by decide)
  have g6 : (Int32.ofNat k = (6 : Int32)) ↔ k = 6 := go 6 (by decide)
  have g7 : (Int32.ofNat k = (7 : Int32)) ↔ k = 7 := go 7 (by decide)
  have g8 : (Int32.ofNat k = (8 : Int32)) ↔ k = 8 := go 8 (by decide)
  have g9 : (Int32.ofNat k = (9 : Int32)) ↔ k = 9 := go 9 (by decide)
  have g10 : (Int32.ofNat k = (10 : Int32)) ↔ k = 10 := go 10 (by decide)
  have g11 : (Int32.ofNat k = (11 : Int32)) ↔ k = 11 := go 11 (by decide)
  have g12 : (Int32.ofNat k = (12 : Int32)) ↔ k = 12 := go 12 (by decide)
  have ii : ∀ {c : Prop} [Decidable c] {a b : Int64}, (if c then some a else some b) = some (if c then a else b) := by
    intro c _ a b
    by_cases e : c
    · rw [if_pos e, if_pos e]
    · rw [if_neg e, if_neg e]
  have ij : ∀ {a : Int64}, (if (lg_cmp y (0 : Int64)) = 0 then (some (0 : Int64)) else (if y = 0 then none else some a)) = some (if (lg_cmp y (0 : Int64)) = 0 then (0 : Int64) else a) := by
    intro a
    by_cases e : (lg_cmp y (0 : Int64)) = 0
    · rw [if_pos e, if_pos e]
    · rw [if_neg e, if_neg e, if_neg (i_nzJ e)]
  unfold m_o
  rw [ij, ij, ii, ii, ii, ii, ii]
  simp only [g2, g3, g4, g5, g6, g7, g8, g9, g10, g11, g12]
  rcases (by omega : k = 2 ∨ k = 3 ∨ k = 4 ∨ k = 5 ∨ k = 6 ∨ k = 7 ∨ k = 8 ∨ k = 9 ∨ k = 10 ∨ k = 11 ∨ k = 12 ∨ k = 13) with c | c | c | c | c | c | c | c | c | c | c | c <;> subst c <;> rfl
/-- the words -/
def m_W (M : gM) (w : Nat → Int64) : Prop := ∀ i, i ≤ 13 → M.2.2.1 8 i = w i
theorem m_Wz {M M' : gM} {w : Nat → Int64} (W : m_W M w) (f : k_Fz M M') : m_W M' w := fun i h => by rw [f.2.2 8 (by decide)]; exact W i h
theorem C_seg {w : Nat → Int64} {js len to : Nat} {l3 : Int32} (hj : js ≠ 6) (h3 : l3.toInt = (to : Int)) (hto : to ≤ len) (hlen : len ≤ 400) : ∀ {g : List (Nat × Int32)} {d : Nat} {v : Int64}, m_E w g d v → ∀ (n i : Nat) {l4 : Int32} {M : gM} {st : List Int64} {P : Int64 × gM → Prop}, k_Z M → m_W M w → g_k M js = (20, len) → m_L e_c (M.2.1 js) i g → l4.toInt = (i : Int) → i + g.length ≤ to → k_st M st → st.length + d ≤ 32 →
    (∀ M' l, k_Fz M M' → k_st M' (v :: st) → l.toInt = ((i + g.length : Nat) : Int) → Ok (F_X5_run_L8 n (some 6) (some js) l3 l M') P) → Ok (F_X5_run_L8 (n + g.length) (some 6) (some js) l3 l4 M) P := by
  intro g d v E
  -- what every step looks at
  have pre : ∀ (n i : Nat) {l4 : Int32} {M : gM} {P : Int64 × gM → Prop} {a : Nat × Int32}, k_Z M → g_k M js = (20, len) → M.2.1 js i = e_c a → (a.1 ≤ 14 ∧ 0 ≤ a.2.toInt ∧ a.2.toInt ≤ 99999) → l4.toInt = (i : Int) → i < to →
      Ok (if Int32.ofNat a.1 = 0 then ((gO 5 M (some 6)).bind fun i22 => (F_X5_push (some i22) (a.2).toInt64 M).bind fun M23 => F_X5_run_b138 (F_X5_run_L8 n) (some i22) (some js) l3 l4 M23) else (if Int32.ofNat a.1 = (1 : Int32) then (if a.2 < 0 then (F_X5_run_b90 (F_X5_run_L8 n) (some 6) (some js) l3 l4 (some 6) M) else ((gR 5 M (some 6) 1).bind fun v18 => (aN M v18).bind fun v19 => if v19 ≤ a.2 then (F_X5_run_b90 (F_X5_run_L8 n) (some 6) (some js) l3 l4 (some 6) M) else ((gR 5 M (some 6) 1).bind fun v20 => (aL M v20 a.2).bind fun v21 => F_X5_run_b91 (F_X5_run_L8 n) (some 6) (some js) l3 l4 (some 6) v21 M))) else (if Int32.ofNat a.1 = (14 : Int32) then ((gO 5 M (some 6)).bind fun i13 => (F_X5_pop (some i13) M).bind fun (v14, M15) => (gC 5 M15 i13).bind fun _ => (F_X5_push (some i13) ((1 : Int64) - v14) M15).bind fun M17 => F_X5_run_b138 (F_X5_run_L8 n) (some i13) (some js) l3 l4 M17) else ((gO 5 M (some 6)).bind fun i4 => (F_X5_pop (some i4) M).bind fun (v5, M6) => (gC 5 M6 i4).bind fun _ => (F_X5_pop (some i4) M6).bind fun (v8, M9) => (F_X5_joined (Int32.ofNat a.1) v8 v5 M9).bind fun v10 => (gC 5 M9 i4).bind fun _ => (F_X5_push (some i4) v10 M9).bind fun M12 => F_X5_run_b138 (F_X5_run_L8 n) (some i4) (some js) l3 l4 M12)))) P →
      Ok (F_X5_run_L8 (n + 1) (some 6) (some js) l3 l4 M) P := by
    intro n i l4 M P a Z K hs ha h4 hi hP
    show Ok (F_X5_run_b8 (F_X5_run_L8 n) (some 6) (some js) l3 l4 M) P
    have z0 : (0 : Int32).toInt = 0 := rfl
    have cl := i_cl h4
    have b := e_c_b (k := a.1) (v := a.2) ha.1 ha.2.1 ha.2.2
    have on : (Int32.ofNat len).toInt = (len : Int) := i_ofNat (by omega)
    delta F_X5_run_b8
    rw [if_neg (fun z => by have := i_lt z; omega), if_neg (fun z => by have := i_le z; omega), t_aN K (by decide), Option.bind_some, if_neg (fun z => by have := i_le z; omega), t_aI K (by omega) (by omega), Option.bind_some, Option.bind_some, cl, hs]
    have e : (e_c a : Int32) = e_c (a.1, a.2) := rfl
    rw [e, b.1, b.2]
    exact hP
  refine m_Ei (g := g) (d := d) (v := v) (P := fun g d v => ∀ (n i : Nat) {l4 : Int32} {M : gM} {st : List Int64} {P : Int64 × gM → Prop}, k_Z M → m_W M w → g_k M js = (20, len) → m_L e_c (M.2.1 js) i g → l4.toInt = (i : Int) → i + g.length ≤ to → k_st M st → st.length + d ≤ 32 →
    (∀ M' l, k_Fz M M' → k_st M' (v :: st) → l.toInt = ((i + g.length : Nat) : Int) → Ok (F_X5_run_L8 n (some 6) (some js) l3 l M') P) → Ok (F_X5_run_L8 (n + g.length) (some 6) (some js) l3 l4 M) P) ?_ ?_ ?_ ?_ E
  · intro v d h1 h2 hd n i l4 M st P Z W K L h4 hi S h32 g
    have hs : M.2.1 js i = e_c (0, v) := L.1
    refine pre n i (a := (0, v)) Z K hs ⟨Nat.zero_le _, h1, h2⟩ h4 (by have : i + 1 ≤ to := hi; omega) ?_
    dsimp only
    rw [if_pos (show Int32.ofNat 0 = 0 from rfl), t_gO Z.1.1.1, Option.bind_some]
    refine Ok_b (C_push Z S (by omega)) (fun M23 z => ?_)
    exact g _ _ z.1 z.2 (i_nx h4 (by have : i + 1 ≤ to := hi; omega))
  · intro v d j h1 h2 hd n i l4 M st P Z W K L h4 hi S h32 g
    have hs : M.2.1 js i = e_c (1, v) := L.1
    have z0 : (0 : Int32).toInt = 0 := rfl
    have o14 : (Int32.ofNat 14).toInt = 14 := rfl
    refine pre n i (a := (1, v)) Z K hs ⟨by show 1 ≤ 14; decide, by show 0 ≤ v.toInt; omega, by show v.toInt ≤ 99999; omega⟩ h4 (by have : i + 1 ≤ to := hi; omega) ?_
    dsimp only
    rw [if_neg (by decide), if_pos (show Int32.ofNat 1 = 1 from rfl), if_neg (fun z => by have := i_lt z; omega), t_gR Z.1.1.1 Z.2.2, Option.bind_some, t_aN Z.1.2 (by decide), Option.bind_some, if_neg (fun z => by have := i_le z; omega), Option.bind_some, t_aL Z.1.2 (by omega) (by omega), Option.bind_some, i_cl h1, W j h2]
    delta F_X5_run_b91
    rw [t_gO Z.1.1.1, Option.bind_some]
    refine Ok_b (C_push Z S (by omega)) (fun M23 z => ?_)
    exact g _ _ z.1 z.2 (i_nx h4 (by have : i + 1 ≤ to := hi; omega))
  · intro s d v E1 ih n i l4 M st P Z W K L h4 hi S h32 g
    have hi' : i + (s.length + 1) ≤ to := hi
    rw [show n + ((14, (0 : Int32)) :: s).length = (n + 1) + s.length by simp; omega]
    refine ih (n + 1) i Z W K L.2 h4 (by omega) S h32 (fun M1 l f1 S1 hl => ?_)
    have hs : M1.2.1 js (i + s.length) = e_c (14, 0) := by rw [f1.2.1 js hj]; exact L.1
    have Z1 := k_zZ Z f1
    refine pre n (i + s.length) (a := (14, 0)) Z1 (by rw [q_k_of f1.1.1]; exact K) hs ⟨by decide, by decide, by decide⟩ hl (by omega) ?_
    dsimp only
    rw [if_neg (by decide), if_neg (by decide), if_pos (show Int32.ofNat 14 = 14 from rfl), t_gO Z1.1.1.1, Option.bind_some]
    refine Ok_b (C_pop Z1 S1 (by have := (m_Ene E1).2; omega)) (fun y z => ?_)
    obtain ⟨v14, M15⟩ := y
    obtain ⟨e14, f15, S15⟩ := z
    dsimp only at e14 f15 S15 ⊢
    have Z15 := k_zZ Z1 f15
    rw [t_gC Z15.1.1.1, Option.bind_some, e14]
    refine Ok_b (C_push Z15 S15 (by have := (m_Ene E1).2; omega)) (fun M17 z => ?_)
    exact g _ _ (k_zt f1 (k_zt f15 z.1)) z.2 (by rw [i_nx hl (by omega)]; simp; omega)
  · intro k s1 s2 d d2 v1 v2 k1 k2 E1 E2 hd ih1 ih2 n i l4 M st P Z W K L h4 hi S h32 g
    have hi' : i + (s2.length + s1.length + 1) ≤ to := by
      have : i + ((k, (0 : Int32)) :: (s2 ++ s1)).length ≤ to := hi
      simp at this
      omega
    have L2 := m_L_app L.2
    rw [show n + ((k, (0 : Int32)) :: (s2 ++ s1)).length = ((n + 1) + s2.length) + s1.length by simp; omega]
    refine ih1 ((n + 1) + s2.length) i Z W K L2.2 h4 (by omega) S h32 (fun M1 l f1 S1 hl => ?_)
    refine ih2 (n + 1) (i + s1.length) (k_zZ Z f1) (m_Wz W f1) (by rw [q_k_of f1.1.1]; exact K) (by rw [f1.2.1 js hj]; exact L2.1) hl (by omega) S1 (by simp; omega) (fun M2 l' f2 S2 hl' => ?_)
    have f12 := k_zt f1 f2
    have hs : M2.2.1 js (i + s1.length + s2.length) = e_c (k, 0) := by
      rw [f12.2.1 js hj]
      have := L.1
      rw [List.length_append] at this
      rw [show i + s1.length + s2.length = i + (s2.length + s1.length) by omega]
      exact this
    have Z2 := k_zZ Z f12
    have go : ∀ (c : Nat), c ≤ 14 → k ≠ c → ¬ Int32.ofNat k = Int32.ofNat c := fun c hc hn e => by
      have := congrArg Int32.toInt e
      rw [i_ofNat (by omega), i_ofNat (by omega)] at this
      omega
    refine pre n (i + s1.length + s2.length) (a := (k, 0)) Z2 (by rw [q_k_of f12.1.1]; exact K) hs ⟨by show k ≤ 14; omega, by show 0 ≤ (0 : Int32).toInt; decide, by show (0 : Int32).toInt ≤ 99999; decide⟩ hl' (by omega) ?_
    dsimp only
    rw [if_neg (show ¬ Int32.ofNat k = 0 from go 0 (by decide) (by omega)), if_neg (show ¬ Int32.ofNat k = 1 from go 1 (by decide) (by omega)), if_neg (show ¬ Int32.ofNat k = 14 from go 14 (by decide) (by omega)), t_gO Z2.1.1.1, Option.bind_some]
    have n1 := (m_Ene E1).2
    have n2 := (m_Ene E2).2
    refine Ok_b (C_pop Z2 S2 (by simp; omega)) (fun y z => ?_)
    obtain ⟨v5, M6⟩ := y
    obtain ⟨e5, f6, S6⟩ := z
    dsimp only at e5 f6 S6 ⊢
    have Z6 := k_zZ Z2 f6
    rw [t_gC Z6.1.1.1, Option.bind_some, e5]
    refine Ok_b (C_pop Z6 S6 (by omega)) (fun y z => ?_)
    obtain ⟨v8, M9⟩ := y
    obtain ⟨e8, f9, S9⟩ := z
    dsimp only at e8 f9 S9 ⊢
    have Z9 := k_zZ Z6 f9
    rw [e8, C_joined k1 k2, Option.bind_some, t_gC Z9.1.1.1, Option.bind_some]
    refine Ok_b (C_push Z9 S9 (by omega)) (fun M12 z => ?_)
    exact g _ _ (k_zt f12 (k_zt f6 (k_zt f9 z.1))) z.2 (by rw [i_nx hl' (by omega)]; simp; omega)
/-- a segment's value -/
theorem C_run {w : Nat → Int64} {js len i j : Nat} {l2 l3 : Int32} {g : List (Nat × Int32)} {d : Nat} {v : Int64} {M : gM} (hj : js ≠ 6) (hlen : len ≤ 400) (Z : k_Z M) (W : m_W M w) (K : g_k M js = (20, len)) (L : m_L e_c (M.2.1 js) i g) (E : m_E w g d v) (hd : d ≤ 32) (h2 : l2.toInt = (i : Int)) (h3 : l3.toInt = (j : Int)) (hg : g.length + i = j) (hjl : j ≤ len) : Ok (F_X5_run (some 6) (some js) l2 l3 M) (fun r => r.1 = v ∧ k_Fz M r.2) := by
  delta F_X5_run F_X5_run_b0
  rw [t_pI Z.1.1.1, Option.bind_some]
  have f0 : k_Fz M (mI M 6 2 (0 : Int32)) := k_zI
  have S0 : k_st (mI M 6 2 (0 : Int32)) [] := ⟨by rw [y_mI1]; rfl, trivial⟩
  obtain ⟨n, hn⟩ : ∃ n, g_fuel = (n + 1) + g.length := ⟨g_fuel - 1 - g.length, by have : g_fuel = 1000000000 := rfl; omega⟩
  rw [hn]
  refine C_seg hj h3 hjl hlen E (n + 1) i (k_zZ Z f0) (m_Wz W f0) (by rw [q_k_of f0.1.1]; exact K) (by rw [f0.2.1 js hj]; exact L) h2 (by omega) S0 (by simp; omega) (fun M' l f' S' hl => ?_)
  show Ok (F_X5_run_b8 (F_X5_run_L8 n) (some 6) (some js) l3 l M') _
  have Z' := k_zZ Z (k_zt f0 f')
  have z0 : (0 : Int32).toInt = 0 := rfl
  delta F_X5_run_b8 F_X5_run_b144
  rw [if_neg (fun z => by have := i_lt z; omega), if_pos (Int32.le_iff_toInt_le.mpr (by omega)), t_gO Z'.1.1.1, Option.bind_some]
  refine Ok_b (C_pop Z' S' (by decide)) (fun y z => ?_)
  obtain ⟨v2, M3⟩ := y
  exact Ok_s ⟨z.1, k_zt f0 (k_zt f' z.2.1)⟩
-- 7z9l.closs
/-! what a RULE says: the SUM of the first CLAUSE that holds -/
def m_nth {α : Type} : List α → Nat → Option α
  | [], _ => none
  | m :: ms, q => if q = ms.length then some m else m_nth ms q
theorem m_nth_mem {α : Type} {m : α} {q : Nat} : ∀ {ms : List α}, m_nth ms q = some m → m ∈ ms := by
  intro ms
  induction ms with
  | nil => intro h; cases h
  | cons a ms ih =>
    intro h
    unfold m_nth at h
    by_cases c : q = ms.length
    · rw [if_pos c] at h
      cases h
      exact List.mem_cons_self
    · rw [if_neg c] at h
      exact List.mem_cons_of_mem _ (ih h)
theorem m_nth_ex {α : Type} {q : Nat} : ∀ {ms : List α}, q < ms.length → ∃ m, m_nth ms q = some m := by
  intro ms
  induction ms with
  | nil => intro h; exact absurd h (Nat.not_lt_zero _)
  | cons a ms ih =>
    intro h
    unfold m_nth
    by_cases c : q = ms.length
    · rw [if_pos c]
      exact ⟨a, rfl⟩
    · rw [if_neg c]
      refine ih ?_
      have : q < ms.length + 1 := h
      omega
theorem m_nth_lt {α : Type} {m : α} {q : Nat} : ∀ {ms : List α}, m_nth ms q = some m → q < ms.length := by
  intro ms
  induction ms with
  | nil => intro h; cases h
  | cons a ms ih =>
    intro h
    unfold m_nth at h
    by_cases c : q = ms.length
    · simp; omega
    · rw [if_neg c] at h
      have := ih h
      simp; omega
theorem c_K_at {f : Nat → Int32} {m : Nat × Nat × Nat} {q : Nat} : ∀ {ms : List (Nat × Nat × Nat)}, c_K f ms → m_nth ms q = some m → ((f (3 * q)).toInt = (m.1 : Int) ∧ (f (3 * q + 1)).toInt = (m.2.1 : Int)) ∧ (f (3 * q + 2)).toInt = (m.2.2 : Int) := by
  intro ms
  induction ms with
  | nil => intro _ h; cases h
  | cons a ms ih =>
    intro K h
    unfold m_nth at h
    by_cases c : q = ms.length
    · rw [if_pos c] at h
      cases h
      rw [c]
      exact K.1
    · rw [if_neg c] at h
      exact ih K.2 h
def m_Vc (w : Nat → Int64) (o : List (Nat × Int32)) (ms : List (Nat × Nat × Nat)) (R : Nat → Int64 → Prop) : Prop :=
  (∀ q : Nat, ms.length ≤ q → R q 0) ∧
  (∀ (q : Nat) (m : Nat × Nat × Nat) (g : List (Nat × Int32)) (v : Int64), m_nth ms q = some m → m.2.1 = m.2.2 → m_sg o m.1 m.2.1 g → m_E w g 3 v → R q v) ∧
  (∀ (q : Nat) (m : Nat × Nat × Nat) (g g2 : List (Nat × Int32)) (v : Int64), m_nth ms q = some m → m.2.1 ≠ m.2.2 → m_sg o m.2.1 m.2.2 g2 → m_E w g2 28 1 → m_sg o m.1 m.2.1 g → m_E w g 3 v → R q v) ∧
  (∀ (q : Nat) (m : Nat × Nat × Nat) (g2 : List (Nat × Int32)) (v : Int64), m_nth ms q = some m → m.2.1 ≠ m.2.2 → m_sg o m.2.1 m.2.2 g2 → m_E w g2 28 0 → R (q + 1) v → R q v)
/-- from the CLAUSE q on -/
def m_V (w : Nat → Int64) (o : List (Nat × Int32)) (ms : List (Nat × Nat × Nat)) (q : Nat) (v : Int64) : Prop := ∀ R, m_Vc w o ms R → R q v
theorem V_fin {w : Nat → Int64} {o : List (Nat × Int32)} {ms : List (Nat × Nat × Nat)} (q : Nat) (h : ms.length ≤ q) : m_V w o ms q 0 := fun _ c => c.1 q h
theorem V_pl {w : Nat → Int64} {o : List (Nat × Int32)} {ms : List (Nat × Nat × Nat)} (q : Nat) (m : Nat × Nat × Nat) (g : List (Nat × Int32)) (v : Int64) (h1 : m_nth ms q = some m) (h2 : m.2.1 = m.2.2) (h3 : m_sg o m.1 m.2.1 g) (h4 : m_E w g 3 v) : m_V w o ms q v := fun _ c => c.2.1 q m g v h1 h2 h3 h4
theorem V_yes {w : Nat → Int64} {o : List (Nat × Int32)} {ms : List (Nat × Nat × Nat)} (q : Nat) (m : Nat × Nat × Nat) (g g2 : List (Nat × Int32)) (v : Int64) (h1 : m_nth ms q = some m) (h2 : m.2.1 ≠ m.2.2) (h5 : m_sg o m.2.1 m.2.2 g2) (h6 : m_E w g2 28 1) (h3 : m_sg o m.1 m.2.1 g) (h4 : m_E w g 3 v) : m_V w o ms q v := fun _ c => c.2.2.1 q m g g2 v h1 h2 h5 h6 h3 h4
theorem V_no {w : Nat → Int64} {o : List (Nat × Int32)} {ms : List (Nat × Nat × Nat)} (q : Nat) (m : Nat × Nat × Nat) (g2 : List (Nat × Int32)) (v : Int64) (h1 : m_nth ms q = some m) (h2 : m.2.1 ≠ m.2.2) (h5 : m_sg o m.2.1 m.2.2 g2) (h6 : m_E w g2 28 0) (h : m_V w o ms (q + 1) v) : m_V w o ms q v := fun R c => c.2.2.2 q m g2 v h1 h2 h5 h6 (h R c)
theorem m_Vi {w : Nat → Int64} {o : List (Nat × Int32)} {ms : List (Nat × Nat × Nat)} {P : Nat → Int64 → Prop} {q : Nat} {v : Int64}
    (fin : ∀ q : Nat, ms.length ≤ q → P q 0)
    (pl : ∀ (q : Nat) (m : Nat × Nat × Nat) (g : List (Nat × Int32)) (v : Int64), m_nth ms q = some m → m.2.1 = m.2.2 → m_sg o m.1 m.2.1 g → m_E w g 3 v → P q v)
    (yes : ∀ (q : Nat) (m : Nat × Nat × Nat) (g g2 : List (Nat × Int32)) (v : Int64), m_nth ms q = some m → m.2.1 ≠ m.2.2 → m_sg o m.2.1 m.2.2 g2 → m_E w g2 28 1 → m_sg o m.1 m.2.1 g → m_E w g 3 v → P q v)
    (no : ∀ (q : Nat) (m : Nat × Nat × Nat) (g2 : List (Nat × Int32)) (v : Int64), m_nth ms q = some m → m.2.1 ≠ m.2.2 → m_sg o m.2.1 m.2.2 g2 → m_E w g2 28 0 → P (q + 1) v → P q v)
    (h : m_V w o ms q v) : P q v := h P ⟨fin, pl, yes, no⟩
theorem m_V_ex {w : Nat → Int64} {o : List (Nat × Int32)} {ms : List (Nat × Nat × Nat)} (R : m_R o ms) : ∀ (n q : Nat), ms.length ≤ n + q → ∃ v, m_V w o ms q v := by
  intro n
  induction n with
  | zero => intro q h; exact ⟨0, V_fin q (by omega)⟩
  | succ n ih =>
    intro q h
    by_cases c : ms.length ≤ q
    · exact ⟨0, V_fin q c⟩
    obtain ⟨m, hm⟩ := m_nth_ex (show q < ms.length by omega)
    obtain ⟨⟨g, s1, a1⟩, h3⟩ := R m (m_nth_mem hm)
    obtain ⟨v, e1, _⟩ := a1 w
    by_cases c2 : m.2.1 = m.2.2
    · exact ⟨v, V_pl q m g v hm c2 s1 e1⟩
    rcases h3 with h3 | ⟨g2, s2, a2⟩
    · exact absurd h3 c2
    obtain ⟨v2, e2, z2⟩ := a2 w
    rcases z2 rfl with z | z
    · subst z
      obtain ⟨v', hv'⟩ := ih (q + 1) (by omega)
      exact ⟨v', V_no q m g2 v' hm c2 s2 e2 hv'⟩
    · subst z
      exact ⟨v, V_yes q m g g2 v hm c2 s2 e2 s1 e1⟩
/-- a Rule of the class -/
def k_rl (M : gM) (j js jm : Nat) (o : List (Nat × Int32)) (ms : List (Nat × Nat × Nat)) : Prop := (g_k M j = (6, 0) ∧ (M.2.2.2 j 0 = some js ∧ M.2.2.2 j 1 = some jm)) ∧ ((g_k M js = (20, o.length) ∧ g_k M jm = (20, 3 * ms.length)) ∧ (8 < js ∧ 8 < jm)) ∧ ((m_L e_c (M.2.1 js) 0 o ∧ c_K (M.2.1 jm) ms) ∧ (o.length ≤ 400 ∧ ms.length ≤ 12)) ∧ m_R o ms
theorem k_rlz {M M' : gM} {j js jm : Nat} {o : List (Nat × Int32)} {ms : List (Nat × Nat × Nat)} (R : k_rl M j js jm o ms) (f : k_Fz M M') : k_rl M' j js jm o ms := by
  obtain ⟨h1, ⟨h2, h3⟩, ⟨h4, h5⟩, h6⟩ := R
  have hk : ∀ i, g_k M' i = g_k M i := fun i => q_k_of f.1.1
  refine ⟨?_, ⟨?_, h3⟩, ⟨?_, h5⟩, h6⟩
  · rw [hk, f.1.2]; exact h1
  · rw [hk, hk]; exact h2
  · rw [f.2.1 js (by omega), f.2.1 jm (by omega)]; exact h4
theorem lg0 {v : Int64} (h : v = 0 ∨ v = 1) : lg_cmp v (0 : Int64) = 0 ↔ v = 0 := by
  rcases h with e | e <;> subst e <;> decide
theorem C_loss_b63 {w : Nat → Int64} {j js jm q : Nat} {o g : List (Nat × Int32)} {ms : List (Nat × Nat × Nat)} {m : Nat × Nat × Nat} {v : Int64} {l3 : Int32} {M : gM} (Z : k_Z M) (W : m_W M w) (R : k_rl M j js jm o ms) (hq : q ≤ 12) (h3 : l3.toInt = ((3 * q : Nat) : Int)) (hm : m_nth ms q = some m) (s1 : m_sg o m.1 m.2.1 g) (E : m_E w g 3 v) : Ok (F_X5_loss_b63 (some 6) (some j) (some jm) l3 M) (fun r => r.1 = v ∧ k_Fz M r.2) := by
  obtain ⟨⟨kj, r0, r1⟩, ⟨⟨k1, k2⟩, n1, n2⟩, ⟨⟨L, K⟩, lo, lm⟩, RR⟩ := R
  have hlt := m_nth_lt hm
  have at3 := c_K_at K hm
  have a1 := i_addc (x := l3) (c := (1 : Int32)) (n := 1) rfl (by omega) (by omega)
  have c0 := i_cl h3
  have c1 : (l3 + (1 : Int32)).toNatClampNeg = 3 * q + 1 := i_cl (by omega)
  have sl := m_sg_le s1
  have sl2 : g.length + m.1 = m.2.1 := by
    obtain ⟨p, s, e1, e2, e3⟩ := s1
    exact e3
  delta F_X5_loss_b63
  rw [t_gR kj r0, Option.bind_some, t_aI k2 (by omega) (by omega), Option.bind_some, t_aI k2 (by omega) (by omega), Option.bind_some, t_gO Z.1.1.1, Option.bind_some, c0, c1]
  refine Ok_b (C_run (by omega) lo Z W k1 (m_L_sg L s1) E (by decide) at3.1.1 at3.1.2 sl2 sl.2) (fun y z => ?_)
  obtain ⟨v5, M6⟩ := y
  exact Ok_s z
theorem C_loss_L7 {w : Nat → Int64} {j js jm : Nat} {o : List (Nat × Int32)} {ms : List (Nat × Nat × Nat)} {q : Nat} {v : Int64} (V : m_V w o ms q v) : ∀ (n : Nat) {l3 : Int32} {M : gM}, k_Z M → m_W M w → k_rl M j js jm o ms → q ≤ 12 → l3.toInt = ((3 * q : Nat) : Int) → 13 < n + q → Ok (F_X5_loss_L7 n (some 6) (some j) (some jm) l3 M) (fun r => r.1 = v ∧ k_Fz M r.2) := by
  refine m_Vi (q := q) (v := v) (P := fun q v => ∀ (n : Nat) {l3 : Int32} {M : gM}, k_Z M → m_W M w → k_rl M j js jm o ms → q ≤ 12 → l3.toInt = ((3 * q : Nat) : Int) → 13 < n + q → Ok (F_X5_loss_L7 n (some 6) (some j) (some jm) l3 M) (fun r => r.1 = v ∧ k_Fz M r.2)) ?_ ?_ ?_ ?_ V
  · intro q hq n l3 M Z W R hq12 h3 hn
    obtain ⟨n, rfl⟩ : ∃ m, n = m + 1 := ⟨n - 1, by omega⟩
    obtain ⟨⟨kj, r0, r1⟩, ⟨⟨k1, k2⟩, n1, n2⟩, ⟨⟨L, K⟩, lo, lm⟩, RR⟩ := R
    show Ok (F_X5_loss_b7 (F_X5_loss_L7 n) (some 6) (some j) (some jm) l3 M) _
    have a2 := i_addc (x := l3) (c := (2 : Int32)) (n := 2) rfl (by omega) (by omega)
    have on : (Int32.ofNat (3 * ms.length)).toInt = ((3 * ms.length : Nat) : Int) := i_ofNat (by omega)
    delta F_X5_loss_b7
    rw [t_aN k2 (by decide), Option.bind_some, if_pos (Int32.le_iff_toInt_le.mpr (by omega))]
    exact Ok_s ⟨rfl, k_zr⟩
  · intro q m g v hm h0 s1 E n l3 M Z W R hq12 h3 hn
    obtain ⟨n, rfl⟩ : ∃ m, n = m + 1 := ⟨n - 1, by omega⟩
    obtain ⟨⟨kj, r0, r1⟩, ⟨⟨k1, k2⟩, n1, n2⟩, ⟨⟨L, K⟩, lo, lm⟩, RR⟩ := R
    have R : k_rl M j js jm o ms := ⟨⟨kj, r0, r1⟩, ⟨⟨k1, k2⟩, n1, n2⟩, ⟨⟨L, K⟩, lo, lm⟩, RR⟩
    have hlt := m_nth_lt hm
    have at3 := c_K_at K hm
    have a1 := i_addc (x := l3) (c := (1 : Int32)) (n := 1) rfl (by omega) (by omega)
    have a2 := i_addc (x := l3) (c := (2 : Int32)) (n := 2) rfl (by omega) (by omega)
    have on : (Int32.ofNat (3 * ms.length)).toInt = ((3 * ms.length : Nat) : Int) := i_ofNat (by omega)
    have c1 : (l3 + (1 : Int32)).toNatClampNeg = 3 * q + 1 := i_cl (by omega)
    have c2 : (l3 + (2 : Int32)).toNatClampNeg = 3 * q + 2 := i_cl (by omega)
    show Ok (F_X5_loss_b7 (F_X5_loss_L7 n) (some 6) (some j) (some jm) l3 M) _
    delta F_X5_loss_b7 F_X5_loss_b33
    rw [t_aN k2 (by decide), Option.bind_some, if_neg (fun z => by have := i_le z; omega), t_aI k2 (by omega) (by omega), Option.bind_some, t_aI k2 (by omega) (by omega), Option.bind_some, c1, c2, if_pos (Int32.toInt_inj.mp (by rw [at3.1.2, at3.2, h0])), if_neg (by decide)]
    exact C_loss_b63 Z W R hq12 h3 hm s1 E
  · intro q m g g2 v hm h0 s2 E2 s1 E n l3 M Z W R hq12 h3 hn
    obtain ⟨n, rfl⟩ : ∃ m, n = m + 1 := ⟨n - 1, by omega⟩
    obtain ⟨⟨kj, r0, r1⟩, ⟨⟨k1, k2⟩, n1, n2⟩, ⟨⟨L, K⟩, lo, lm⟩, RR⟩ := R
    have R : k_rl M j js jm o ms := ⟨⟨kj, r0, r1⟩, ⟨⟨k1, k2⟩, n1, n2⟩, ⟨⟨L, K⟩, lo, lm⟩, RR⟩
    have hlt := m_nth_lt hm
    have at3 := c_K_at K hm
    have a1 := i_addc (x := l3) (c := (1 : Int32)) (n := 1) rfl (by omega) (by omega)
    have a2 := i_addc (x := l3) (c := (2 : Int32)) (n := 2) rfl (by omega) (by omega)
    have on : (Int32.ofNat (3 * ms.length)).toInt = ((3 * ms.length : Nat) : Int) := i_ofNat (by omega)
    have c1 : (l3 + (1 : Int32)).toNatClampNeg = 3 * q + 1 := i_cl (by omega)
    have c2 : (l3 + (2 : Int32)).toNatClampNeg = 3 * q + 2 := i_cl (by omega)
    have sl := m_sg_le s2
    have sl2 : g2.length + m.2.1 = m.2.2 := by
      obtain ⟨p, s, e1, e2, e3⟩ := s2
      exact e3
    show Ok (F_X5_loss_b7 (F_X5_loss_L7 n) (some 6) (some j) (some jm) l3 M) _
    delta F_X5_loss_b7 F_X5_loss_b33
    rw [t_aN k2 (by decide), Option.bind_some, if_neg (fun z => by have := i_le z; omega), t_aI k2 (by omega) (by omega), Option.bind_some, t_aI k2 (by omega) (by omega), Option.bind_some, c1, c2, if_neg (fun z => h0 (by have := congrArg Int32.toInt z; omega)), if_pos rfl, t_gR kj r0, Option.bind_some, Option.bind_some, Option.bind_some, t_gO Z.1.1.1, Option.bind_some]
    refine Ok_b (C_run (by omega) lo Z W k1 (m_L_sg L s2) E2 (by decide) at3.1.2 at3.2 sl2 sl.2) (fun y z => ?_)
    obtain ⟨v5, M6⟩ := y
    obtain ⟨e5, f6⟩ := z
    dsimp only at e5 f6 ⊢
    subst e5
    rw [if_neg (by decide)]
    refine Ok_w (C_loss_b63 (k_zZ Z f6) (m_Wz W f6) (k_rlz R f6) hq12 h3 hm s1 E) (fun r z => ⟨z.1, k_zt f6 z.2⟩)
  · intro q m g2 v hm h0 s2 E2 ih n l3 M Z W R hq12 h3 hn
    obtain ⟨n, rfl⟩ : ∃ m, n = m + 1 := ⟨n - 1, by omega⟩
    obtain ⟨⟨kj, r0, r1⟩, ⟨⟨k1, k2⟩, n1, n2⟩, ⟨⟨L, K⟩, lo, lm⟩, RR⟩ := R
    have R : k_rl M j js jm o ms := ⟨⟨kj, r0, r1⟩, ⟨⟨k1, k2⟩, n1, n2⟩, ⟨⟨L, K⟩, lo, lm⟩, RR⟩
    have hlt := m_nth_lt hm
    have at3 := c_K_at K hm
    have a1 := i_addc (x := l3) (c := (1 : Int32)) (n := 1) rfl (by omega) (by omega)
    have a2 := i_addc (x := l3) (c := (2 : Int32)) (n := 2) rfl (by omega) (by omega)
    have a3 := i_addc (x := l3) (c := (3 : Int32)) (n := 3) rfl (by omega) (by omega)
    have on : (Int32.ofNat (3 * ms.length)).toInt = ((3 * ms.length : Nat) : Int) := i_ofNat (by omega)
    have c1 : (l3 + (1 : Int32)).toNatClampNeg = 3 * q + 1 := i_cl (by omega)
    have c2 : (l3 + (2 : Int32)).toNatClampNeg = 3 * q + 2 := i_cl (by omega)
    have sl := m_sg_le s2
    have sl2 : g2.length + m.2.1 = m.2.2 := by
      obtain ⟨p, s, e1, e2, e3⟩ := s2
      exact e3
    show Ok (F_X5_loss_b7 (F_X5_loss_L7 n) (some 6) (some j) (some jm) l3 M) _
    delta F_X5_loss_b7 F_X5_loss_b33
    rw [t_aN k2 (by decide), Option.bind_some, if_neg (fun z => by have := i_le z; omega), t_aI k2 (by omega) (by omega), Option.bind_some, t_aI k2 (by omega) (by omega), Option.bind_some, c1, c2, if_neg (fun z => h0 (by have := congrArg Int32.toInt z; omega)), if_pos rfl, t_gR kj r0, Option.bind_some, Option.bind_some, Option.bind_some, t_gO Z.1.1.1, Option.bind_some]
    refine Ok_b (C_run (by omega) lo Z W k1 (m_L_sg L s2) E2 (by decide) at3.1.2 at3.2 sl2 sl.2) (fun y z => ?_)
    obtain ⟨v5, M6⟩ := y
    obtain ⟨e5, f6⟩ := z
    dsimp only at e5 f6 ⊢
    subst e5
    rw [if_pos (by decide)]
    exact Ok_w (ih n (k_zZ Z f6) (m_Wz W f6) (k_rlz R f6) (by omega) (by omega) (by omega)) (fun r z => ⟨z.1, k_zt f6 z.2⟩)
theorem C_loss {w : Nat → Int64} {j js jm : Nat} {o : List (Nat × Int32)} {ms : List (Nat × Nat × Nat)} {v : Int64} {M : gM} (Z : k_Z M) (W : m_W M w) (R : k_rl M j js jm o ms) (V : m_V w o ms 0 v) : Ok (F_X5_loss (some 6) (some j) M) (fun r => r.1 = v ∧ k_Fz M r.2) := by
  delta F_X5_loss F_X5_loss_b0
  rw [t_gR R.1.1 R.1.2.2, Option.bind_some]
  exact C_loss_L7 V g_fuel (l3 := (0 : Int32)) Z W R (by decide) rfl (by have : g_fuel = 1000000000 := rfl; omega)
-- 7z9m.erun
/-! the reference runs steps -/
theorem e_map_le {k : Nat} (h : k ≤ 14) : e_map k ≤ 14 := by
  unfold e_map
  repeat' split
  all_goals omega
theorem e_r_b {k : Nat} {v : Int32} (hk : k ≤ 14) (h0 : 0 ≤ v.toInt) (h1 : v.toInt ≤ 99999) : (e_r (k, v)) &&& (15 : Int32) = Int32.ofNat (e_map k) ∧ (e_r (k, v)) >>> ((4 : Int32) &&& 31) = v := by
  have em := e_map_le hk
  have oi : (Int32.ofNat (e_map k)).toInt = (e_map k : Int) := i_ofNat (by omega)
  have a1 := i_mulL (c := (16 : Int32)) (x := v) (n := 16) rfl (by omega) (by omega)
  have a2 := i_add (x := Int32.ofNat (e_map k)) (y := (16 : Int32) * v) (by omega) (by omega)
  have e : (e_r (k, v)).toInt = e_map k + 16 * v.toInt := by
    show (Int32.ofNat (e_map k) + (16 : Int32) * v).toInt = _
    omega
  constructor
  · refine Int32.toInt_inj.mp ?_
    rw [i_and15 (by omega), oi]
    omega
  · refine Int32.toInt_inj.mp ?_
    rw [i_shr4]
    omega
theorem e_sLx {i n : Nat} {j : Int32} {v : Int64} {M : gM} (H : y_HT M) (hk : y_kd i = (21, n)) (h0 : 0 ≤ j.toInt) (h1 : j.toInt < (n : Int)) : sL M (some i) j v = some (mL M i j.toNatClampNeg v) := by
  have K := y_kk H (y_cs_of hk (Nat.le_of_ble_eq_true rfl)) hk
  exact t_sL K h0 h1
theorem e_aLx {i n : Nat} {j : Int32} {M : gM} (H : y_HT M) (hk : y_kd i = (21, n)) (h0 : 0 ≤ j.toInt) (h1 : j.toInt < (n : Int)) : aL M (some i) j = some (M.2.2.1 i j.toNatClampNeg) := by
  have K := y_kk H (y_cs_of hk (Nat.le_of_ble_eq_true rfl)) hk
  exact t_aL K h0 h1
/-- only the stack moved -/
def e_Fz (M M' : gM) : Prop := (y_HT M' ∧ y_Fr 262144 M M') ∧ M'.2.2.1 184 = M.2.2.1 184
theorem e_zr {M : gM} (H : y_HT M) : e_Fz M M := ⟨⟨H, y_rf0 _ _⟩, rfl⟩
theorem e_zt {M M1 M2 : gM} (h1 : e_Fz M M1) (h2 : e_Fz M1 M2) : e_Fz M M2 := ⟨⟨h2.1.1, y_tr h1.1.2 h2.1.2⟩, h2.2.trans h1.2⟩
theorem e_zI {M : gM} {v : Int32} (H : y_HT M) (h : 0 ≤ v.toInt ∧ v.toInt ≤ 64) : e_Fz M (mI M 175 18 v) := by
  obtain ⟨H1, f1⟩ := y_set (M' := mI M 175 18 v) (S := 262144) H (i := 175) (k := 18) (by decide) rfl rfl y_mI1 (fun j a hj => y_mI2 hj) rfl (y_in (lo := 0) (hi := 64) rfl h) (by decide)
  exact ⟨⟨H1, f1⟩, rfl⟩
theorem e_zL {M : gM} {k : Nat} {v : Int64} (H : y_HT M) : e_Fz M (mL M 183 k v) := by
  obtain ⟨H1, f1⟩ := y_setL (M' := mL M 183 k v) (S := 262144) H (i := 183) (k := k) (by decide) rfl (fun h => by cases h)
  exact ⟨⟨H1, f1⟩, funext (fun a => mL_ne (Or.inl (by decide)))⟩
def e_sq (M : gM) (st : List Int64) : Prop := (M.2.1 175 18).toInt = (st.length : Int) ∧ m_K (M.2.2.1 183) st
theorem E_push {M : gM} {st : List Int64} {v : Int64} (H : y_HT M) (S : e_sq M st) (h : st.length < 64) : Ok (F_X12_push (some 175) v M) (fun M' => e_Fz M M' ∧ e_sq M' (v :: st)) := by
  have cl := i_cl S.1
  have s1 := S.1
  delta F_X12_push F_X12_push_b0
  rw [e_gR H (w := 183) rfl (by decide), Option.bind_some, e_gI H, Option.bind_some, e_sLx H (i := 183) (n := 64) rfl (by omega) (by omega), Option.bind_some, cl]
  have f1 := e_zL (M := M) (k := st.length) (v := v) H
  have e2 : (mL M 183 st.length v).2.1 175 18 = M.2.1 175 18 := rfl
  rw [e_gI f1.1.1, Option.bind_some, e_pI f1.1.1, Option.bind_some, e2, n_inc S.1 (by omega)]
  have f2 := e_zI (v := Int32.ofNat (st.length + 1)) f1.1.1 (by rw [i_ofNat (by omega)]; omega)
  refine Ok_s ⟨e_zt f1 f2, by rw [y_mI1, i_ofNat (by omega)]; rfl, ?_⟩
  refine ⟨y_mL1, m_K_c (fun q hq => ?_) S.2⟩
  exact mL_ne (Or.inr (by omega))
theorem E_pop {M : gM} {st : List Int64} {v : Int64} (H : y_HT M) (S : e_sq M (v :: st)) (h : st.length < 64) : Ok (F_X12_pop (some 175) M) (fun r => r.1 = v ∧ e_Fz M r.2 ∧ e_sq r.2 st) := by
  have s1 : (M.2.1 175 18).toInt = ((st.length + 1 : Nat) : Int) := S.1
  have a := i_subc (x := M.2.1 175 18) (c := (1 : Int32)) (n := 1) rfl (by omega) (by omega)
  have al : (M.2.1 175 18 - (1 : Int32)).toInt = (st.length : Int) := by omega
  have f1 := e_zI (v := M.2.1 175 18 - (1 : Int32)) H (by omega)
  delta F_X12_pop F_X12_pop_b0
  rw [e_gI H, Option.bind_some, e_pI H, Option.bind_some, e_gR f1.1.1 (w := 183) rfl (by decide), Option.bind_some, e_gI f1.1.1, Option.bind_some, y_mI1, e_aLx f1.1.1 (i := 183) (n := 64) rfl (by omega) (by omega), Option.bind_some, i_cl al]
  exact Ok_s ⟨S.2.1, f1, by rw [y_mI1]; exact al, S.2.2⟩
theorem E_one {k : Nat} {x y : Int64} {M : gM} (h1 : 2 ≤ k) (h2 : k ≤ 13) : F_X12_one (Int32.ofNat (e_map k)) x y M = some (m_o k x y) := by
  delta F_X12_one F_X12_one_b0 F_X12_one_b172
  have ii : ∀ {c : Prop} [Decidable c] {a b : Int64}, (if c then some a else some b) = some (if c then a else b) := by
    intro c _ a b
    by_cases e : c
    · rw [if_pos e, if_pos e]
    · rw [if_neg e, if_neg e]
  have ij : ∀ {a : Int64}, (if (lg_cmp y (0 : Int64)) = 0 then (some (0 : Int64)) else (if y = 0 then none else some a)) = some (if (lg_cmp y (0 : Int64)) = 0 then (0 : Int64) else a) := by
    intro a
    by_cases e : (lg_cmp y (0 : Int64)) = 0
    · rw [if_pos e, if_pos e]
    · rw [if_neg e, if_neg e, if_neg (i_nzJ e)]
  rw [ij, ij, ii, ii, ii, ii, ii]
  rcases (by omega : k = 2 ∨ k = 3 ∨ k = 4 ∨ k = 5 ∨ k = 6 ∨ k = 7 ∨ k = 8 ∨ k = 9 ∨ k = 10 ∨ k = 11 ∨ k = 12 ∨ k = 13) with c | c | c | c | c | c | c | c | c | c | c | c <;> subst c <;> rfl
def e_W (M : gM) (w : Nat → Int64) : Prop := ∀ i, i ≤ 13 → M.2.2.1 184 i = w i
theorem e_Wz {M M' : gM} {w : Nat → Int64} (W : e_W M w) (f : e_Fz M M') : e_W M' w := fun i h => by rw [f.2]; exact W i h
theorem e_zs {M M' : gM} (f : e_Fz M M') (t : Nat) : y_sn M' t = y_sn M t := y_snf f.1.2 (by decide) t
theorem E_seg {w : Nat → Int64} {t to : Nat} {l1 l3 : Int32} (ht : l1.toInt = (t : Int)) (ht5 : t ≤ 5) (h3 : l3.toInt = (to : Int)) (hto : to ≤ 400) : ∀ {g : List (Nat × Int32)} {d : Nat} {v : Int64}, m_E w g d v → ∀ (n i : Nat) {l4 : Int32} {M : gM} {st : List Int64} {P : Int64 × gM → Prop}, y_HT M → e_W M w → m_L e_r (y_sn M t) i g → l4.toInt = (i : Int) → i + g.length ≤ to → e_sq M st → st.length + d ≤ 32 →
    (∀ M' l, e_Fz M M' → e_sq M' (v :: st) → l.toInt = ((i + g.length : Nat) : Int) → Ok (F_X12_reckons_L8 n (some 175) l1 l3 l M') P) → Ok (F_X12_reckons_L8 (n + g.length) (some 175) l1 l3 l4 M) P := by
  intro g d v E
  have pre : ∀ (n i : Nat) {l4 : Int32} {M : gM} {P : Int64 × gM → Prop} {a : Nat × Int32}, y_HT M → y_sn M t i = e_r a → (a.1 ≤ 14 ∧ 0 ≤ a.2.toInt ∧ a.2.toInt ≤ 99999) → l4.toInt = (i : Int) → i < to →
      Ok (if Int32.ofNat (e_map a.1) = 0 then ((gO 12 M (some 175)).bind fun i26 => (F_X12_push (some i26) (a.2).toInt64 M).bind fun M27 => F_X12_reckons_b129 (F_X12_reckons_L8 n) (some i26) l1 l3 l4 M27) else (if Int32.ofNat (e_map a.1) = (1 : Int32) then ((gR 12 M (some 175) 19).bind fun v22 => (aL M v22 a.2).bind fun v23 => (gO 12 M (some 175)).bind fun i24 => (F_X12_push (some i24) v23 M).bind fun M25 => F_X12_reckons_b129 (F_X12_reckons_L8 n) (some i24) l1 l3 l4 M25) else (if Int32.ofNat (e_map a.1) = (11 : Int32) then ((gO 12 M (some 175)).bind fun i17 => (F_X12_pop (some i17) M).bind fun (v18, M19) => (gC 12 M19 i17).bind fun _ => (F_X12_push (some i17) ((1 : Int64) - v18) M19).bind fun M21 => F_X12_reckons_b129 (F_X12_reckons_L8 n) (some i17) l1 l3 l4 M21) else ((gO 12 M (some 175)).bind fun i8 => (F_X12_pop (some i8) M).bind fun (v9, M10) => (gC 12 M10 i8).bind fun _ => (F_X12_pop (some i8) M10).bind fun (v12, M13) => (F_X12_one (Int32.ofNat (e_map a.1)) v12 v9 M13).bind fun v14 => (gC 12 M13 i8).bind fun _ => (F_X12_push (some i8) v14 M13).bind fun M16 => F_X12_reckons_b129 (F_X12_reckons_L8 n) (some i8) l1 l3 l4 M16)))) P →
      Ok (F_X12_reckons_L8 (n + 1) (some 175) l1 l3 l4 M) P := by
    intro n i l4 M P a H hs ha h4 hi hP
    show Ok (F_X12_reckons_b8 (F_X12_reckons_L8 n) (some 175) l1 l3 l4 M) P
    have b := e_r_b (k := a.1) (v := a.2) ha.1 ha.2.1 ha.2.2
    have a1 := i_mulL (c := (400 : Int32)) (x := l1) (n := 400) rfl (by omega) (by omega)
    have a2 := i_add (x := (400 : Int32) * l1) (y := l4) (by omega) (by omega)
    have hj : ((400 : Int32) * l1 + l4).toNatClampNeg = 400 * t + i := i_cl (by omega)
    have hs' : M.2.1 177 (400 * t + i) = e_r (a.1, a.2) := hs
    delta F_X12_reckons_b8
    rw [if_neg (fun z => by have := i_le z; omega), e_gR H (w := 177) rfl (by decide), Option.bind_some, e_aI H (t := 20) (i := 177) (n := 2400) rfl (by decide) (by omega) (by omega), Option.bind_some, Option.bind_some, e_aI H (t := 20) (i := 177) (n := 2400) rfl (by decide) (by omega) (by omega), Option.bind_some, hj, hs', b.1, b.2]
    exact hP
  refine m_Ei (g := g) (d := d) (v := v) (P := fun g d v => ∀ (n i : Nat) {l4 : Int32} {M : gM} {st : List Int64} {P : Int64 × gM → Prop}, y_HT M → e_W M w → m_L e_r (y_sn M t) i g → l4.toInt = (i : Int) → i + g.length ≤ to → e_sq M st → st.length + d ≤ 32 →
    (∀ M' l, e_Fz M M' → e_sq M' (v :: st) → l.toInt = ((i + g.length : Nat) : Int) → Ok (F_X12_reckons_L8 n (some 175) l1 l3 l M') P) → Ok (F_X12_reckons_L8 (n + g.length) (some 175) l1 l3 l4 M) P) ?_ ?_ ?_ ?_ E
  · intro v d h1 h2 hd n i l4 M st P H W L h4 hi S h32 g
    have hs : y_sn M t i = e_r (0, v) := L.1
    refine pre n i (a := (0, v)) H hs ⟨Nat.zero_le _, h1, h2⟩ h4 (by have : i + 1 ≤ to := hi; omega) ?_
    dsimp only
    rw [if_pos (show Int32.ofNat (e_map 0) = 0 from rfl), e_gO H, Option.bind_some]
    refine Ok_b (E_push H S (by omega)) (fun M23 z => ?_)
    exact g _ _ z.1 z.2 (i_nx h4 (by have : i + 1 ≤ to := hi; omega))
  · intro v d j h1 h2 hd n i l4 M st P H W L h4 hi S h32 g
    have hs : y_sn M t i = e_r (1, v) := L.1
    refine pre n i (a := (1, v)) H hs ⟨by show 1 ≤ 14; decide, by show 0 ≤ v.toInt; omega, by show v.toInt ≤ 99999; omega⟩ h4 (by have : i + 1 ≤ to := hi; omega) ?_
    dsimp only
    rw [if_neg (by decide), if_pos (show Int32.ofNat (e_map 1) = 1 from rfl), e_gR H (w := 184) rfl (by decide), Option.bind_some, e_aLx H (i := 184) (n := 14) rfl (by omega) (by omega), Option.bind_some, i_cl h1, W j h2, e_gO H, Option.bind_some]
    refine Ok_b (E_push H S (by omega)) (fun M23 z => ?_)
    exact g _ _ z.1 z.2 (i_nx h4 (by have : i + 1 ≤ to := hi; omega))
  · intro s d v E1 ih n i l4 M st P H W L h4 hi S h32 g
    have hi' : i + (s.length + 1) ≤ to := hi
    have n1 := (m_Ene E1).2
    rw [show n + ((14, (0 : Int32)) :: s).length = (n + 1) + s.length by simp; omega]
    refine ih (n + 1) i H W L.2 h4 (by omega) S h32 (fun M1 l f1 S1 hl => ?_)
    have hs : y_sn M1 t (i + s.length) = e_r (14, 0) := by rw [e_zs f1]; exact L.1
    have H1 := f1.1.1
    refine pre n (i + s.length) (a := (14, 0)) H1 hs ⟨by decide, by decide, by decide⟩ hl (by omega) ?_
    dsimp only
    rw [if_neg (by decide), if_neg (by decide), if_pos (show Int32.ofNat (e_map 14) = 11 from rfl), e_gO H1, Option.bind_some]
    refine Ok_b (E_pop H1 S1 (by omega)) (fun y z => ?_)
    obtain ⟨v14, M15⟩ := y
    obtain ⟨e14, f15, S15⟩ := z
    dsimp only at e14 f15 S15 ⊢
    have H15 := f15.1.1
    rw [e_gC H15, Option.bind_some, e14]
    refine Ok_b (E_push H15 S15 (by omega)) (fun M17 z => ?_)
    exact g _ _ (e_zt f1 (e_zt f15 z.1)) z.2 (by rw [i_nx hl (by omega)]; simp; omega)
  · intro k s1 s2 d d2 v1 v2 k1 k2 E1 E2 hd ih1 ih2 n i l4 M st P H W L h4 hi S h32 g
    have hi' : i + (s2.length + s1.length + 1) ≤ to := by
      have : i + ((k, (0 : Int32)) :: (s2 ++ s1)).length ≤ to := hi
      simp at this
      omega
    have n1 := (m_Ene E1).2
    have n2 := (m_Ene E2).2
    have L2 := m_L_app L.2
    rw [show n + ((k, (0 : Int32)) :: (s2 ++ s1)).length = ((n + 1) + s2.length) + s1.length by simp; omega]
    refine ih1 ((n + 1) + s2.length) i H W L2.2 h4 (by omega) S h32 (fun M1 l f1 S1 hl => ?_)
    refine ih2 (n + 1) (i + s1.length) f1.1.1 (e_Wz W f1) (by rw [e_zs f1]; exact L2.1) hl (by omega) S1 (by simp; omega) (fun M2 l' f2 S2 hl' => ?_)
    have f12 := e_zt f1 f2
    have hs : y_sn M2 t (i + s1.length + s2.length) = e_r (k, 0) := by
      rw [e_zs f12]
      have := L.1
      rw [List.length_append] at this
      rw [show i + s1.length + s2.length = i + (s2.length + s1.length) by omega]
      exact this
    have H2 := f2.1.1
    have em : e_map k ≠ 0 ∧ e_map k ≠ 1 ∧ e_map k ≠ 11 ∧ e_map k ≤ 14 := by
      rcases (by omega : k = 2 ∨ k = 3 ∨ k = 4 ∨ k = 5 ∨ k = 6 ∨ k = 7 ∨ k = 8 ∨ k = 9 ∨ k = 10 ∨ k = 11 ∨ k = 12 ∨ k = 13) with c | c | c | c | c | c | c | c | c | c | c | c <;> subst c <;> decide
    have go : ∀ (c : Nat), c ≤ 14 → e_map k ≠ c → ¬ Int32.ofNat (e_map k) = Int32.ofNat c := fun c hc hn e => by
      have := congrArg Int32.toInt e
      rw [i_ofNat (by omega), i_ofNat (by omega)] at this
      omega
    refine pre n (i + s1.length + s2.length) (a := (k, 0)) H2 hs ⟨by show k ≤ 14; omega, by show 0 ≤ (0 : Int32).toInt; decide, by show (0 : Int32).toInt ≤ 99999; decide⟩ hl' (by omega) ?_
    dsimp only
    rw [if_neg (show ¬ Int32.ofNat (e_map k) = 0 from go 0 (by decide) em.1), if_neg (show ¬ Int32.ofNat (e_map k) = 1 from go 1 (by decide) em.2.1), if_neg (show ¬ Int32.ofNat (e_map k) = 11 from go 11 (by decide) em.2.2.1), e_gO H2, Option.bind_some]
    refine Ok_b (E_pop H2 S2 (by simp; omega)) (fun y z => ?_)
    obtain ⟨v5, M6⟩ := y
    obtain ⟨e5, f6, S6⟩ := z
    dsimp only at e5 f6 S6 ⊢
    have H6 := f6.1.1
    rw [e_gC H6, Option.bind_some, e5]
    refine Ok_b (E_pop H6 S6 (by omega)) (fun y z => ?_)
    obtain ⟨v8, M9⟩ := y
    obtain ⟨e8, f9, S9⟩ := z
    dsimp only at e8 f9 S9 ⊢
    have H9 := f9.1.1
    rw [e8, E_one k1 k2, Option.bind_some, e_gC H9, Option.bind_some]
    refine Ok_b (E_push H9 S9 (by omega)) (fun M12 z => ?_)
    exact g _ _ (e_zt f12 (e_zt f6 (e_zt f9 z.1))) z.2 (by rw [i_nx hl' (by omega)]; simp; omega)
/-- a segment's value -/
theorem E_run {w : Nat → Int64} {t i j : Nat} {l1 l2 l3 : Int32} {g : List (Nat × Int32)} {d : Nat} {v : Int64} {M : gM} (ht : l1.toInt = (t : Int)) (ht5 : t ≤ 5) (H : y_HT M) (W : e_W M w) (L : m_L e_r (y_sn M t) i g) (E : m_E w g d v) (hd : d ≤ 32) (h2 : l2.toInt = (i : Int)) (h3 : l3.toInt = (j : Int)) (hg : g.length + i = j) (hjl : j ≤ 400) : Ok (F_X12_reckons (some 175) l1 l2 l3 M) (fun r => r.1 = v ∧ e_Fz M r.2) := by
  delta F_X12_reckons F_X12_reckons_b0
  rw [e_pI H, Option.bind_some]
  have f0 : e_Fz M (mI M 175 18 (0 : Int32)) := e_zI H (by decide)
  have S0 : e_sq (mI M 175 18 (0 : Int32)) [] := ⟨by rw [y_mI1]; rfl, trivial⟩
  obtain ⟨n, hn⟩ : ∃ n, g_fuel = (n + 1) + g.length := ⟨g_fuel - 1 - g.length, by have : g_fuel = 1000000000 := rfl; omega⟩
  rw [hn]
  refine E_seg ht ht5 h3 hjl E (n + 1) i f0.1.1 (e_Wz W f0) (by rw [e_zs f0]; exact L) h2 (by omega) S0 (by simp; omega) (fun M' l f' S' hl => ?_)
  show Ok (F_X12_reckons_b8 (F_X12_reckons_L8 n) (some 175) l1 l3 l M') _
  have H' := f'.1.1
  delta F_X12_reckons_b8
  rw [if_pos (Int32.le_iff_toInt_le.mpr (by omega)), e_gO H', Option.bind_some]
  refine Ok_b (E_pop H' S' (by decide)) (fun y z => ?_)
  obtain ⟨v2, M3⟩ := y
  exact Ok_s ⟨z.1, e_zt f0 (e_zt f' z.2.1)⟩
-- 7z9n.words
/-! how many bits; the WORDS of an HEIR and a THING -/
def s_cn (f : Nat → Bool) : Nat → Int32
  | 0 => 0
  | k + 1 => if f k = true then s_cn f k + 1 else s_cn f k
theorem cn_succ {f : Nat → Bool} {k : Nat} : s_cn f (k + 1) = if f k = true then s_cn f k + 1 else s_cn f k := rfl
theorem cn_congr {f g : Nat → Bool} : ∀ {k : Nat}, (∀ i, i < k → f i = g i) → s_cn f k = s_cn g k := by
  intro k
  induction k with
  | zero => intro _; rfl
  | succ k ih =>
    intro h
    rw [cn_succ, cn_succ, ih (fun i hi => h i (by omega)), h k (by omega)]
theorem cn_r {f : Nat → Bool} : ∀ {k : Nat}, k ≤ 10 → 0 ≤ (s_cn f k).toInt ∧ (s_cn f k).toInt ≤ k := by
  intro k
  induction k with
  | zero =>
    intro _
    have z0 : (s_cn f 0).toInt = 0 := rfl
    rw [z0]
    omega
  | succ k ih =>
    intro hk
    have ih := ih (by omega)
    rw [cn_succ]
    by_cases c : f k = true
    · rw [if_pos c]
      have := i_addc (x := s_cn f k) (c := (1 : Int32)) (n := 1) rfl (by omega) (by omega)
      omega
    · rw [if_neg c]
      omega
def g_Z0 : gM := ([], fun _ _ => 0, fun _ _ => 0, fun _ _ => none)
def s_l7 (b0 b1 b2 b3 b4 b5 b6 : Bool) : Nat → Bool := fun i => [b0, b1, b2, b3, b4, b5, b6].getD i false
theorem bc_7 : ∀ b0 b1 b2 b3 b4 b5 b6 : Bool, F_J6_bitCount_0f7a4 (s_bs (s_l7 b0 b1 b2 b3 b4 b5 b6) 7) g_Z0 = some (s_cn (s_l7 b0 b1 b2 b3 b4 b5 b6) 7) := by decide +kernel
theorem l7_of {f : Nat → Bool} {i : Nat} (h : i < 7) : f i = s_l7 (f 0) (f 1) (f 2) (f 3) (f 4) (f 5) (f 6) i := by
  rcases (by omega : i = 0 ∨ i = 1 ∨ i = 2 ∨ i = 3 ∨ i = 4 ∨ i = 5 ∨ i = 6) with e | e | e | e | e | e | e <;> subst e <;> rfl
theorem bs_7 {f : Nat → Bool} {k : Nat} (h : k ≤ 7) : s_bs f k = s_bs (fun i => decide (i < k) && f i) 7 := by
  refine Int32.toBitVec_inj.mp (BitVec.eq_of_getLsbD_eq (fun i hi => ?_))
  rw [bs_get (by omega), bs_get (by omega)]
  by_cases c : i < k
  · rw [decide_eq_true c, decide_eq_true (show i < 7 by omega)]
    rfl
  · rw [decide_eq_false c, Bool.false_and, Bool.and_false]
theorem cn_7 {f : Nat → Bool} : ∀ (j k : Nat), k ≤ j → s_cn (fun i => decide (i < k) && f i) j = s_cn f k := by
  intro j
  induction j with
  | zero =>
    intro k h
    have e : k = 0 := by omega
    rw [e]
    rfl
  | succ j ih =>
    intro k h
    rw [cn_succ]
    by_cases c : k ≤ j
    · rw [if_neg (by rw [decide_eq_false (show ¬ j < k by omega)]; simp)]
      exact ih k c
    · have e : k = j + 1 := by omega
      subst e
      rw [cn_succ, decide_eq_true (show j < j + 1 by omega), Bool.true_and]
      have e2 : s_cn (fun i => decide (i < j + 1) && f i) j = s_cn f j := cn_congr (fun i hi => by rw [decide_eq_true (show i < j + 1 by omega), Bool.true_and])
      rw [e2]
theorem C_bitCount {f : Nat → Bool} {k : Nat} {M : gM} (h : k ≤ 7) : F_J6_bitCount_0f7a4 (s_bs f k) M = some (s_cn f k) := by
  have z := bc_7 ((fun i => decide (i < k) && f i) 0) ((fun i => decide (i < k) && f i) 1) ((fun i => decide (i < k) && f i) 2) ((fun i => decide (i < k) && f i) 3) ((fun i => decide (i < k) && f i) 4) ((fun i => decide (i < k) && f i) 5) ((fun i => decide (i < k) && f i) 6)
  rw [← bs_congr (fun i hi => l7_of (f := fun i => decide (i < k) && f i) hi), ← cn_congr (fun i hi => l7_of (f := fun i => decide (i < k) && f i) hi), ← bs_7 h, cn_7 7 k h] at z
  exact z
/-- who knows it as the same: one more than the others -/
theorem cn_sc {σ : Nat → Int32} {h t : Nat} (k : s_kn σ h t = true) : ∀ (j : Nat), s_cn (fun o => s_kn σ o t && s_va σ o t == s_va σ h t) j = s_sc σ h t j + (if h < j then 1 else 0) := by
  intro j
  induction j with
  | zero => rfl
  | succ j ih =>
    rw [cn_succ, sc_succ, ih]
    by_cases e : j = h
    · subst e
      have p1 : (s_kn σ j t && s_va σ j t == s_va σ j t) = true := by rw [k]; simp
      have p2 : ¬ (j ≠ j ∧ s_va σ j t = s_va σ j t) := fun z => z.1 rfl
      rw [if_pos p1, if_neg p2, if_neg (show ¬ j < j by omega), if_pos (show j < j + 1 by omega)]
      simp
    · have en : (h < j + 1) ↔ h < j := by omega
      simp only [en]
      by_cases c : s_va σ j t = s_va σ h t
      · have kj : s_kn σ j t = true := by
          rw [← k]
          unfold s_kn
          rw [c]
        have p1 : (s_kn σ j t && s_va σ j t == s_va σ h t) = true := by rw [kj, c]; simp
        have p2 : j ≠ h ∧ s_va σ j t = s_va σ h t := ⟨e, c⟩
        rw [if_pos p1, if_pos p2]
        by_cases d : h < j
        · rw [if_pos d]
        · rw [if_neg d]
          simp
      · have p1 : ¬ (s_kn σ j t && s_va σ j t == s_va σ h t) = true := by simp [c]
        have p2 : ¬ (j ≠ h ∧ s_va σ j t = s_va σ h t) := fun z => c z.2
        rw [if_neg p1, if_neg p2]
def s_wd (σ : Nat → Int32) (h t : Nat) : Nat → Int64
  | 0 => (Int32.ofNat h).toInt64
  | 1 => (Int32.ofNat t).toInt64
  | 2 => (s_va σ h t).toInt64
  | 3 => if s_va σ h t = σ (10 + 4 * t) then 1 else 0
  | 4 => (s_st σ h t).toInt64
  | 5 => (σ (38 + 2 * h)).toInt64
  | 6 => (hs_is (σ 6) (Int32.ofNat h)).toInt64
  | 7 => (hs_is (σ 7) (Int32.ofNat t)).toInt64
  | 8 => (hs_is (σ 8) (Int32.ofNat t)).toInt64
  | 9 => (σ (11 + 4 * t)).toInt64
  | 10 => (σ (12 + 4 * t)).toInt64
  | 11 => (σ 4).toInt64
  | 12 => (s_sc σ h t (hs_m σ)).toInt64
  | _ => (s_cn (fun o => s_kn σ h o) (hs_n σ)).toInt64
/-- the class has put so many words -/
def w_A (M M1 : gM) (wd : Nat → Int64) (n : Nat) : Prop := ((M1.1 = M.1 ∧ M1.2.2.2 = M.2.2.2) ∧ M1.2.1 = M.2.1 ∧ ∀ i, i ≠ 8 → M1.2.2.1 i = M.2.2.1 i) ∧ ∀ i, i < n → M1.2.2.1 8 i = wd i
theorem w_Az {M M1 : gM} {wd : Nat → Int64} {n : Nat} (a : w_A M M1 wd n) (Z : k_Z M) : k_Z M1 := by
  have hk : ∀ i, g_k M1 i = g_k M i := fun i => q_k_of a.1.1.1
  unfold k_Z at Z ⊢
  simp only [hk, a.1.1.2]
  exact Z
theorem w_AX {M M1 : gM} {wd : Nat → Int64} {n s e : Nat} {σ : Nat → Int32} (a : w_A M M1 wd n) (X : k_X M s e σ) : k_X M1 s e σ :=
  ⟨⟨k_LEm X.1.1 (fun i => q_k_of a.1.1.1) a.1.1.2, k_LSm X.1.2 (fun i => q_k_of a.1.1.1) a.1.1.2⟩, ⟨k_Em X.2.1.1 (fun i k _ _ _ => by rw [a.1.2.1]), k_Sm X.2.1.2 (fun i k _ _ => by rw [a.1.2.1])⟩, X.2.2⟩
theorem w_step {M M1 : gM} {wd : Nat → Int64} {n : Nat} {j : Int32} {v : Int64} {f : gM → Option gM} {P : gM → Prop} (a : w_A M M1 wd n) (Z : k_Z M) (hj : j.toInt = (n : Int)) (hn : n < 14) (hv : v = wd n) (g : ∀ M2, w_A M M2 wd (n + 1) → Ok (f M2) P) : Ok ((sL M1 (some 8) j v).bind f) P := by
  have Z1 := w_Az a Z
  rw [t_sL Z1.1.2 (by omega) (by omega), Option.bind_some, i_cl hj]
  refine g _ ⟨⟨a.1.1, a.1.2.1, fun i hi => ?_⟩, fun i hi => ?_⟩
  · rw [← a.1.2.2 i hi]
    exact funext (fun q => mL_ne (Or.inl hi))
  · by_cases c : i = n
    · rw [c, y_mL1, hv]
    · rw [mL_ne (Or.inr c)]
      exact a.2 i (by omega)
theorem C_look {M : gM} {s e h t : Nat} {σ : Nat → Int32} {l4 l5 : Int32} (Z : k_Z M) (X : k_X M s e σ) (h4 : l4.toInt = (h : Int)) (h5 : l5.toInt = (t : Int)) (hh : h < hs_m σ) (ht : t < hs_n σ) (k : s_kn σ h t = true) : Ok (F_X5_look (some 6) (some e) (some s) l4 l5 M) (fun M' => w_A M M' (s_wd σ h t) 14) := by
  have nn := s_Vn X.2.2
  have ix := k_ix h4 h5 (by omega) (by omega)
  have n4 := i_nt h4 (by omega)
  have n5 := i_nt h5 (by omega)
  have a0 : w_A M M (s_wd σ h t) 0 := ⟨⟨⟨rfl, rfl⟩, rfl, fun _ _ => rfl⟩, fun i hi => absurd hi (Nat.not_lt_zero _)⟩
  obtain ⟨⟨ke, ⟨e6, e7⟩, e9, e10⟩, ⟨⟨ks, k1, k2⟩, k3, k4⟩, ⟨r0, r1⟩, r2, r3⟩ := k_XE X
  have R0 : g_k M (e + 1) = (20, 7) ∧ M.2.2.2 e 0 = some (e + 1) := k_XR (i := 0) X (by decide)
  have R1 : g_k M (e + 2) = (20, 7) ∧ M.2.2.2 e 1 = some (e + 2) := k_XR (i := 1) X (by decide)
  have R2 : g_k M (e + 3) = (20, 7) ∧ M.2.2.2 e 2 = some (e + 3) := k_XR (i := 2) X (by decide)
  have E3 := X.2.1.1.2.2.1 t (by omega)
  have av : M.2.1 (s + 3) h = σ (38 + 2 * h) := (X.2.1.2.2.1 h (by omega)).1
  have S1 := X.2.1.2.1
  have vs := k_Xst X hh (t := t) (by omega)
  -- what every step looks at
  have w : ∀ {n : Nat} {M1 : gM}, w_A M M1 (s_wd σ h t) n → (∀ i, g_k M1 i = g_k M i) ∧ M1.2.2.2 = M.2.2.2 ∧ M1.2.1 = M.2.1 := fun a => ⟨fun i => q_k_of a.1.1.1, a.1.1.2, a.1.2.1⟩
  have b67 : ∀ {M8 : gM} {v : Int64}, w_A M M8 (s_wd σ h t) 3 → v = s_wd σ h t 3 → Ok (F_X5_look_b67 (some 6) (some e) (some s) l4 l5 (l4 * (7 : Int32) + l5) (some 8) (3 : Int32) v M8) (fun M' => w_A M M' (s_wd σ h t) 14) := by
    intro M8 v a hv
    delta F_X5_look_b67
    refine w_step a Z rfl (by decide) hv (fun M1 a => ?_)
    obtain ⟨wk, wr, wi⟩ := w a
    refine x_gR (w_Az a Z).1.1.1 (w_Az a Z).2.2 (x_gR ((wk s).trans ks) ((congrFun (congrFun wr _) _).trans (r1)) (x_aI ((wk _).trans k2) ix (by omega) ((congrFun (congrFun wi _) _).trans (vs.1)) ?_))
    refine w_step a Z rfl (by decide) rfl (fun M5 a => ?_)
    obtain ⟨wk, wr, wi⟩ := w a
    refine x_gR (w_Az a Z).1.1.1 (w_Az a Z).2.2 (x_gR ((wk s).trans ks) ((congrFun (congrFun wr _) _).trans (r2)) (x_aI ((wk _).trans k3) h4 (by omega) ((congrFun (congrFun wi _) _).trans (av)) ?_))
    refine w_step a Z rfl (by decide) rfl (fun M9 a => ?_)
    obtain ⟨wk, wr, wi⟩ := w a
    refine x_gR (w_Az a Z).1.1.1 (w_Az a Z).2.2 (x_gI ((wk e).trans ke) ((congrFun (congrFun wi _) _).trans (e10)) (x_eq C_bit ?_))
    refine w_step a Z rfl (by decide) (by rw [n4]; rfl) (fun M13 a => ?_)
    obtain ⟨wk, wr, wi⟩ := w a
    refine x_gR (w_Az a Z).1.1.1 (w_Az a Z).2.2 (x_gI ((wk e).trans ke) ((congrFun (congrFun wi _) _).trans (e9)) (x_eq C_bit ?_))
    refine w_step a Z rfl (by decide) (by rw [n5]; rfl) (fun M17 a => ?_)
    obtain ⟨wk, wr, wi⟩ := w a
    refine x_gR (w_Az a Z).1.1.1 (w_Az a Z).2.2 (x_gI ((wk s).trans ks) ((congrFun (congrFun wi _) _).trans (S1.1.1)) (x_eq C_bit ?_))
    refine w_step a Z rfl (by decide) (by rw [n5]; rfl) (fun M21 a => ?_)
    obtain ⟨wk, wr, wi⟩ := w a
    refine x_gR (w_Az a Z).1.1.1 (w_Az a Z).2.2 (x_gR ((wk e).trans ke) ((congrFun (congrFun wr _) _).trans (R1.2)) (x_aI ((wk _).trans R1.1) h5 (by omega) ((congrFun (congrFun wi _) _).trans (E3.1.2)) ?_))
    refine w_step a Z rfl (by decide) rfl (fun M25 a => ?_)
    obtain ⟨wk, wr, wi⟩ := w a
    refine x_gR (w_Az a Z).1.1.1 (w_Az a Z).2.2 (x_gR ((wk e).trans ke) ((congrFun (congrFun wr _) _).trans (R2.2)) (x_aI ((wk _).trans R2.1) h5 (by omega) ((congrFun (congrFun wi _) _).trans (E3.2)) ?_))
    refine w_step a Z rfl (by decide) rfl (fun M29 a => ?_)
    obtain ⟨wk, wr, wi⟩ := w a
    refine x_gR (w_Az a Z).1.1.1 (w_Az a Z).2.2 (x_gI ((wk s).trans ks) ((congrFun (congrFun wi _) _).trans (S1.1.2)) ?_)
    refine w_step a Z rfl (by decide) rfl (fun M32 a => ?_)
    obtain ⟨wk, wr, wi⟩ := w a
    refine x_gR (w_Az a Z).1.1.1 (w_Az a Z).2.2 (x_gR ((wk s).trans ks) ((congrFun (congrFun wr _) _).trans (r0)) (x_aI ((wk _).trans k1) ix (by omega) ((congrFun (congrFun wi _) _).trans (vs.2 k)) ?_))
    refine x_gO ((wk s).trans ks) (x_eq (C_knowersAs (w_AX a X) h5 (by omega)) (x_eq (C_bitCount (by omega)) ?_))
    refine w_step a Z rfl (by decide) ?_ (fun M39 a => ?_)
    · rw [cn_sc k, if_pos hh]
      show ((s_sc σ h t (hs_m σ) + 1 - 1 : Int32)).toInt64 = (s_sc σ h t (hs_m σ)).toInt64
      congr 1
      have r := (s_sc_r (σ := σ) (h := h) (t := t) (j := hs_m σ) (by omega)).1
      refine Int32.toInt_inj.mp ?_
      have q1 := i_addc (x := s_sc σ h t (hs_m σ)) (c := (1 : Int32)) (n := 1) rfl (by omega) (by omega)
      have q2 := i_subc (x := s_sc σ h t (hs_m σ) + 1) (c := (1 : Int32)) (n := 1) rfl (by omega) (by omega)
      omega
    obtain ⟨wk, wr, wi⟩ := w a
    refine x_gR (w_Az a Z).1.1.1 (w_Az a Z).2.2 (x_gC ((wk s).trans ks) (x_eq (C_knownBy (w_AX a X) h4 hh) (x_eq (C_bitCount (by omega)) ?_)))
    exact w_step a Z rfl (by decide) rfl (fun M44 a => Ok_s a)
  delta F_X5_look F_X5_look_b0
  refine x_gR Z.1.1.1 Z.2.2 ?_
  refine w_step a0 Z rfl (by decide) (by rw [n4]; rfl) (fun M2 a => ?_)
  obtain ⟨wk, wr, wi⟩ := w a
  refine x_gR (w_Az a Z).1.1.1 (w_Az a Z).2.2 ?_
  refine w_step a Z rfl (by decide) (by rw [n5]; rfl) (fun M4 a => ?_)
  obtain ⟨wk, wr, wi⟩ := w a
  refine x_gR (w_Az a Z).1.1.1 (w_Az a Z).2.2 (x_gR ((wk s).trans ks) ((congrFun (congrFun wr _) _).trans (r0)) (x_aI ((wk _).trans k1) ix (by omega) ((congrFun (congrFun wi _) _).trans (vs.2 k)) ?_))
  refine w_step a Z rfl (by decide) rfl (fun M8 a => ?_)
  obtain ⟨wk, wr, wi⟩ := w a
  refine x_gR (w_Az a Z).1.1.1 (w_Az a Z).2.2 (x_gR ((wk s).trans ks) ((congrFun (congrFun wr _) _).trans (r0)) (x_aI ((wk _).trans k1) ix (by omega) ((congrFun (congrFun wi _) _).trans (vs.2 k)) (x_gR ((wk e).trans ke) ((congrFun (congrFun wr _) _).trans (R0.2)) (x_aI ((wk _).trans R0.1) h5 (by omega) ((congrFun (congrFun wi _) _).trans (E3.1.1)) ?_))))
  by_cases c : s_va σ h t = σ (10 + 4 * t)
  · rw [if_pos c]
    exact b67 a (if_pos c).symm
  · rw [if_neg c]
    exact b67 a (if_neg c).symm
-- 7za0.words2
/-! the reference's WORDS, and what a RULE says there -/
def e_A (M M1 : gM) (wd : Nat → Int64) (n : Nat) : Prop := ((y_HT M1 ∧ y_Fr 262144 M M1) ∧ M1.2.1 = M.2.1) ∧ ∀ i, i < n → M1.2.2.1 184 i = wd i
theorem e_Astep {M M1 : gM} {wd : Nat → Int64} {n : Nat} {j : Int32} {v : Int64} {f : gM → Option gM} {P : gM → Prop} (a : e_A M M1 wd n) (hj : j.toInt = (n : Int)) (hn : n < 14) (hv : v = wd n) (g : ∀ M2, e_A M M2 wd (n + 1) → Ok (f M2) P) : Ok ((sL M1 (some 184) j v).bind f) P := by
  obtain ⟨⟨⟨H1, f1⟩, e1⟩, w1⟩ := a
  obtain ⟨H2, f2⟩ := y_setL (M' := mL M1 184 n v) (S := 262144) H1 (i := 184) (k := n) (by decide) rfl (fun h => by cases h)
  rw [e_sLx H1 (i := 184) (n := 14) rfl (by omega) (by omega), Option.bind_some, i_cl hj]
  refine g _ ⟨⟨⟨H2, y_tr f1 f2⟩, e1⟩, fun i hi => ?_⟩
  by_cases c : i = n
  · rw [c, y_mL1, hv]
  · rw [mL_ne (Or.inr c)]
    exact w1 i (by omega)
theorem e_AV {M M1 : gM} {wd : Nat → Int64} {n : Nat} {σ : Nat → Int32} (a : e_A M M1 wd n) (X : e_V M σ) : e_V M1 σ := ⟨a.1.1.1, (congrFun a.1.2 185).trans X.2.1, X.2.2⟩
theorem E_words {M : gM} {h t : Nat} {σ : Nat → Int32} {l1 l2 : Int32} (X : e_V M σ) (h1 : l1.toInt = (h : Int)) (h2 : l2.toInt = (t : Int)) (hh : h < hs_m σ) (ht : t < hs_n σ) : Ok (F_X12_words (some 175) l1 l2 M) (fun M' => e_A M M' (s_wd σ h t) 14) := by
  have nn := s_Vn X.2.2
  have n1 := i_nt h1 (by omega)
  have n2 := i_nt h2 (by omega)
  have a0 : e_A M M (s_wd σ h t) 0 := ⟨⟨⟨X.1, y_rf0 _ _⟩, rfl⟩, fun i hi => absurd hi (Nat.not_lt_zero _)⟩
  have g19 : ∀ {M1 : gM} {n : Nat} {β : Type} {f : Option Nat → Option β} {Q : β → Prop}, e_A M M1 (s_wd σ h t) n → Ok (f (some 184)) Q → Ok ((gR 12 M1 (some 175) 19).bind f) Q := fun a g => by
    rw [e_gR a.1.1.1 (w := 184) rfl (by decide), Option.bind_some]
    exact g
  have gsd : ∀ {M1 : gM} {n k : Nat} {j : Int32} {β : Type} {f : Int32 → Option β} {Q : β → Prop}, e_A M M1 (s_wd σ h t) n → j.toInt = (k : Int) → k < 157 → Ok (f (σ k)) Q → Ok ((gR 12 M1 (some 175) 20).bind fun v => (aI 20 M1 v j).bind f) Q := fun a hj hk g => by
    rw [e_sd (e_AV a X) hj hk]
    exact g
  have gOx : ∀ {M1 : gM} {n : Nat} {β : Type} {f : Nat → Option β} {Q : β → Prop}, e_A M M1 (s_wd σ h t) n → Ok (f 175) Q → Ok ((gO 12 M1 (some 175)).bind f) Q := fun a g => by
    rw [e_gO a.1.1.1, Option.bind_some]
    exact g
  have gCx : ∀ {M1 : gM} {n : Nat} {β : Type} {f : Unit → Option β} {Q : β → Prop}, e_A M M1 (s_wd σ h t) n → Ok (f ()) Q → Ok ((gC 12 M1 175).bind f) Q := fun a g => by
    rw [e_gC a.1.1.1, Option.bind_some]
    exact g
  have b94 : ∀ {M8 : gM} {v : Int64} {l3 : Int32}, e_A M M8 (s_wd σ h t) 3 → v = s_wd σ h t 3 → l3 = s_cn (fun o => s_kn σ h o) (hs_n σ) → Ok (F_X12_words_b94 (some 175) l1 l2 l3 (some 184) (3 : Int32) v M8) (fun M' => e_A M M' (s_wd σ h t) 14) := by
    intro M8 v l3 a hv h3
    have i38 := i_mulL (c := (2 : Int32)) (x := l1) (n := 2) rfl (by omega) (by omega)
    have j38 := i_cadd (c := (38 : Int32)) (x := (2 : Int32) * l1) (n := 38) rfl (by omega) (by omega)
    delta F_X12_words_b94
    refine e_Astep a rfl (by decide) hv (fun M1 a => g19 a (gOx a (x_eq (E_strengthOf (e_AV a X) h1 h2 (by omega) (by omega)) ?_)))
    refine e_Astep a rfl (by decide) rfl (fun M5 a => g19 a (gsd a (k := 38 + 2 * h) (by omega) (by omega) ?_))
    refine e_Astep a rfl (by decide) rfl (fun M9 a => g19 a (gsd a (k := 6) rfl (by decide) ?_))
    refine e_Astep a rfl (by decide) (by rw [n1]; rfl) (fun M13 a => g19 a (gsd a (k := 7) rfl (by decide) ?_))
    refine e_Astep a rfl (by decide) (by rw [n2]; rfl) (fun M17 a => g19 a (gsd a (k := 8) rfl (by decide) ?_))
    refine e_Astep a rfl (by decide) (by rw [n2]; rfl) (fun M21 a => g19 a (gCx a (x_eq (E_thingOf (e_AV a X) h2 (w := 1) rfl (by omega) (by decide)) ?_)))
    refine e_Astep a rfl (by decide) (by show _ = (σ (11 + 4 * t)).toInt64; rw [show 10 + 4 * t + 1 = 11 + 4 * t by omega]) (fun M25 a => g19 a (gCx a (x_eq (E_thingOf (e_AV a X) h2 (w := 2) rfl (by omega) (by decide)) ?_)))
    refine e_Astep a rfl (by decide) (by show _ = (σ (12 + 4 * t)).toInt64; rw [show 10 + 4 * t + 2 = 12 + 4 * t by omega]) (fun M29 a => g19 a (gsd a (k := 4) rfl (by decide) ?_))
    refine e_Astep a rfl (by decide) rfl (fun M33 a => g19 a (gCx a (x_eq (E_sameAs (e_AV a X) h1 h2 (by omega) (by omega)) ?_)))
    refine e_Astep a rfl (by decide) rfl (fun M37 a => g19 a ?_)
    exact e_Astep a rfl (by decide) (by rw [h3]; rfl) (fun M39 a => Ok_s a)
  have main : ∀ (n j : Nat) {l4 : Int32}, l4.toInt = (j : Int) → j ≤ hs_n σ → hs_n σ - j < n → Ok (F_X12_words_L5 n (some 175) l1 l2 (s_cn (fun o => s_kn σ h o) j) l4 M) (fun M' => e_A M M' (s_wd σ h t) 14) := by
    intro n
    induction n with
    | zero => intro j l4 h4 hj hn; omega
    | succ n ih =>
      intro j l4 h4 hj hn
      show Ok (F_X12_words_b5 (F_X12_words_L5 n) (some 175) l1 l2 _ l4 M) _
      delta F_X12_words_b5 F_X12_words_b32
      rw [e_sd X (k := 1) rfl (by decide)]
      have c0 := i_le_n h4 nn.1.1
      by_cases c : hs_n σ ≤ j
      · have : j = hs_n σ := by omega
        subst this
        rw [if_pos (c0.mpr c)]
        refine g19 a0 (e_Astep a0 rfl (by decide) (by rw [n1]; rfl) (fun M4 a => g19 a ?_))
        refine e_Astep a rfl (by decide) (by rw [n2]; rfl) (fun M6 a => g19 a (gOx a (x_eq (E_valueOf (e_AV a X) h1 h2 (by omega) (by omega)) ?_)))
        refine e_Astep a rfl (by decide) rfl (fun M10 a => g19 a (gCx a (x_eq (E_valueOf (e_AV a X) h1 h2 (by omega) (by omega)) (x_eq (E_thingOf (e_AV a X) h2 (w := 0) rfl (by omega) (by decide)) ?_))))
        have e10 : σ (10 + 4 * t + 0) = σ (10 + 4 * t) := by rw [Nat.add_zero]
        rw [e10]
        by_cases cv : s_va σ h t = σ (10 + 4 * t)
        · rw [if_pos cv]
          exact b94 a (if_pos cv).symm rfl
        · rw [if_neg cv]
          exact b94 a (if_neg cv).symm rfl
      · rw [if_neg (mt c0.mp c), e_gO X.1, Option.bind_some, E_knowsOf X h1 h4 (by omega) (by omega), Option.bind_some]
        have ih := ih (j + 1) (i_nx h4 (by omega)) (by omega) (by omega)
        rw [cn_succ] at ih
        by_cases k : s_kn σ h j = true
        · rw [if_pos k, if_neg (by decide)]
          rw [if_pos k] at ih
          exact ih
        · rw [if_neg k, if_pos rfl]
          rw [if_neg k] at ih
          rw [show s_cn (fun o => s_kn σ h o) j + (0 : Int32) = s_cn (fun o => s_kn σ h o) j from Int32.add_zero _]
          exact ih
  delta F_X12_words F_X12_words_b0
  exact main g_fuel 0 (l4 := 0) rfl (Nat.zero_le _) (n_fu (by omega))
/-- the reference's CLAUSES -/
def r_K (f : Nat → Int32) (b : Nat) : List (Nat × Nat × Nat) → Prop
  | [] => True
  | m :: ms => (((f (b + 4 * ms.length)).toInt = (m.1 : Int) ∧ (f (b + 4 * ms.length + 1)).toInt = (m.2.1 : Int)) ∧ (f (b + 4 * ms.length + 2)).toInt = (if m.2.1 = m.2.2 then -1 else (m.2.1 : Int)) ∧ (f (b + 4 * ms.length + 3)).toInt = (m.2.2 : Int)) ∧ r_K f b ms
theorem r_K_c {f g : Nat → Int32} {b : Nat} : ∀ {ms : List (Nat × Nat × Nat)}, (∀ q, b ≤ q → q < b + 4 * ms.length → g q = f q) → r_K f b ms → r_K g b ms := by
  intro ms
  induction ms with
  | nil => intro _ _; trivial
  | cons m ms ih =>
    intro h hc
    have hl : (m :: ms).length = ms.length + 1 := rfl
    refine ⟨?_, ih (fun q h1 h2 => h q h1 (by omega)) hc.2⟩
    rw [h _ (by omega) (by omega), h _ (by omega) (by omega), h _ (by omega) (by omega), h _ (by omega) (by omega)]
    exact hc.1
theorem r_K_at {f : Nat → Int32} {b : Nat} {m : Nat × Nat × Nat} {q : Nat} : ∀ {ms : List (Nat × Nat × Nat)}, r_K f b ms → m_nth ms q = some m → ((f (b + 4 * q)).toInt = (m.1 : Int) ∧ (f (b + 4 * q + 1)).toInt = (m.2.1 : Int)) ∧ (f (b + 4 * q + 2)).toInt = (if m.2.1 = m.2.2 then -1 else (m.2.1 : Int)) ∧ (f (b + 4 * q + 3)).toInt = (m.2.2 : Int) := by
  intro ms
  induction ms with
  | nil => intro _ h; cases h
  | cons a ms ih =>
    intro K h
    unfold m_nth at h
    by_cases c : q = ms.length
    · rw [if_pos c] at h
      cases h
      rw [c]
      exact K.1
    · rw [if_neg c] at h
      exact ih K.2 h
/-- a RULE of the reference -/
def r_rl (M : gM) (t : Nat) (o : List (Nat × Int32)) (ms : List (Nat × Nat × Nat)) : Prop := ((M.2.1 180 t).toInt = (ms.length : Int) ∧ r_K (M.2.1 179) (48 * t) ms) ∧ (m_L e_r (y_sn M t) 0 o ∧ (o.length ≤ 400 ∧ ms.length ≤ 12)) ∧ m_R o ms
theorem r_rl_m {S : Nat} {M M' : gM} {t : Nat} {o : List (Nat × Int32)} {ms : List (Nat × Nat × Nat)} (R : r_rl M t o ms) (f : y_Fr S M M') (h : Nat.land S (2 ^ 42 + 2 ^ 44 + 2 ^ 45) = 0) : r_rl M' t o ms := by
  have e1 : M'.2.1 179 = M.2.1 179 := funext (fun q => y_fa (i := 179) f (by decide) (y_dis h (by decide)) q)
  have e2 : M'.2.1 180 = M.2.1 180 := funext (fun q => y_fa (i := 180) f (by decide) (y_dis h (by decide)) q)
  have e3 : y_sn M' t = y_sn M t := y_snf f (y_dis h (by decide)) t
  unfold r_rl at R ⊢
  rw [e1, e2, e3]
  exact R
theorem E_sum_b58 {w : Nat → Int64} {t q : Nat} {o g : List (Nat × Int32)} {ms : List (Nat × Nat × Nat)} {m : Nat × Nat × Nat} {v : Int64} {l1 l3 : Int32} {M : gM} (ht : l1.toInt = (t : Int)) (ht5 : t ≤ 5) (H : y_HT M) (W : e_W M w) (R : r_rl M t o ms) (h3 : l3.toInt = ((48 * t + 4 * q : Nat) : Int)) (hm : m_nth ms q = some m) (s1 : m_sg o m.1 m.2.1 g) (E : m_E w g 3 v) : Ok (F_X12_summedBy_b58 (some 175) l1 l3 M) (fun r => r.1 = v ∧ e_Fz M r.2) := by
  obtain ⟨⟨n1, K⟩, ⟨L, lo, lm⟩, RR⟩ := R
  have hlt := m_nth_lt hm
  have at4 := r_K_at K hm
  have a1 := i_addc (x := l3) (c := (1 : Int32)) (n := 1) rfl (by omega) (by omega)
  have c0 := i_cl h3
  have c1 : (l3 + (1 : Int32)).toNatClampNeg = 48 * t + 4 * q + 1 := i_cl (by omega)
  have sl := m_sg_le s1
  have sl2 : g.length + m.1 = m.2.1 := by
    obtain ⟨p, s, e1, e2, e3⟩ := s1
    exact e3
  delta F_X12_summedBy_b58
  rw [e_gR H (w := 179) rfl (by decide), Option.bind_some, e_aI H (t := 20) (i := 179) (n := 288) rfl (by decide) (by omega) (by omega), Option.bind_some, Option.bind_some, e_aI H (t := 20) (i := 179) (n := 288) rfl (by decide) (by omega) (by omega), Option.bind_some, e_gO H, Option.bind_some, c0, c1]
  refine Ok_b (E_run ht ht5 H W (m_L_sg L s1) E (by decide) at4.1.1 at4.1.2 sl2 (by omega)) (fun y z => ?_)
  obtain ⟨v5, M6⟩ := y
  exact Ok_s z
theorem r_rl_z {M M' : gM} {t : Nat} {o : List (Nat × Int32)} {ms : List (Nat × Nat × Nat)} (R : r_rl M t o ms) (f : e_Fz M M') : r_rl M' t o ms := r_rl_m R f.1.2 (by decide)
theorem lg1 {v : Int64} (h : v = 0 ∨ v = 1) : lg_cmp v (1 : Int64) = 0 ↔ v = 1 := by
  rcases h with e | e <;> subst e <;> decide
theorem E_sum_L2 {w : Nat → Int64} {t : Nat} {o : List (Nat × Int32)} {ms : List (Nat × Nat × Nat)} {q : Nat} {v : Int64} {l1 : Int32} (ht : l1.toInt = (t : Int)) (ht5 : t ≤ 5) (V : m_V w o ms q v) : ∀ (n : Nat) {l2 : Int32} {M : gM}, y_HT M → e_W M w → r_rl M t o ms → q ≤ 12 → l2.toInt = (q : Int) → 13 < n + q → Ok (F_X12_summedBy_L2 n (some 175) l1 l2 M) (fun r => r.1 = v ∧ e_Fz M r.2) := by
  -- the places of a CLAUSE
  have pl : ∀ {q : Nat} {l2 : Int32}, q ≤ 12 → l2.toInt = (q : Int) → ((((48 : Int32) * l1) + ((4 : Int32) * l2)).toInt = ((48 * t + 4 * q : Nat) : Int)) ∧ ((((48 : Int32) * l1) + ((4 : Int32) * l2)) + (2 : Int32)).toInt = ((48 * t + 4 * q + 2 : Nat) : Int) ∧ ((((48 : Int32) * l1) + ((4 : Int32) * l2)) + (3 : Int32)).toInt = ((48 * t + 4 * q + 3 : Nat) : Int) := by
    intro q l2 hq h2
    have a1 := i_mulL (c := (48 : Int32)) (x := l1) (n := 48) rfl (by omega) (by omega)
    have a2 := i_mulL (c := (4 : Int32)) (x := l2) (n := 4) rfl (by omega) (by omega)
    have a3 := i_add (x := (48 : Int32) * l1) (y := (4 : Int32) * l2) (by omega) (by omega)
    have a4 := i_addc (x := (48 : Int32) * l1 + (4 : Int32) * l2) (c := (2 : Int32)) (n := 2) rfl (by omega) (by omega)
    have a5 := i_addc (x := (48 : Int32) * l1 + (4 : Int32) * l2) (c := (3 : Int32)) (n := 3) rfl (by omega) (by omega)
    omega
  -- the head of a round
  have hd : ∀ {q n : Nat} {l2 : Int32} {M : gM} {m : Nat × Nat × Nat} {Q : Int64 × gM → Prop}, y_HT M → r_rl M t o ms → q ≤ 12 → l2.toInt = (q : Int) → m_nth ms q = some m →
      (m.2.1 = m.2.2 → Ok (F_X12_summedBy_b58 (some 175) l1 (((48 : Int32) * l1) + ((4 : Int32) * l2)) M) Q) →
      (m.2.1 ≠ m.2.2 → ∀ x y : Int32, x.toInt = (m.2.1 : Int) → y.toInt = (m.2.2 : Int) → Ok ((F_X12_reckons (some 175) l1 x y M).bind fun (v10, M11) => if (lg_cmp v10 (1 : Int64)) = 0 then (F_X12_summedBy_b58 (some 175) l1 (((48 : Int32) * l1) + ((4 : Int32) * l2)) M11) else (F_X12_summedBy_L2 n (some 175) l1 (l2 + 1) M11)) Q) →
      Ok (F_X12_summedBy_L2 (n + 1) (some 175) l1 l2 M) Q := by
    intro q n l2 M m Q H R hq h2 hm g1 g2
    obtain ⟨⟨n1, K⟩, ⟨L, lo, lm⟩, RR⟩ := R
    have hlt := m_nth_lt hm
    obtain ⟨⟨k1, k2⟩, k3, k4⟩ := r_K_at K hm
    obtain ⟨p0, p2, p3⟩ := pl hq h2
    have q2 := i_cl p2
    have q3 := i_cl p3
    have z0 : (0 : Int32).toInt = 0 := rfl
    show Ok (F_X12_summedBy_b2 (F_X12_summedBy_L2 n) (some 175) l1 l2 M) Q
    delta F_X12_summedBy_b2
    rw [e_gR H (w := 180) rfl (by decide), Option.bind_some, e_aI H (t := 20) (i := 180) (n := 6) rfl (by decide) (by omega) (by omega), Option.bind_some, i_cl ht, if_neg (fun z => by have := i_le z; omega)]
    rw [e_gR H (w := 179) rfl (by decide), Option.bind_some, e_aI H (t := 20) (i := 179) (n := 288) rfl (by decide) (by omega) (by omega), Option.bind_some, q2]
    by_cases c : m.2.1 = m.2.2
    · rw [if_pos c] at k3
      rw [if_pos (Int32.lt_iff_toInt_lt.mpr (by omega))]
      exact g1 c
    · rw [if_neg c] at k3
      rw [if_neg (fun z => by have := i_lt z; omega), Option.bind_some, e_aI H (t := 20) (i := 179) (n := 288) rfl (by decide) (by omega) (by omega), Option.bind_some, Option.bind_some, e_aI H (t := 20) (i := 179) (n := 288) rfl (by decide) (by omega) (by omega), Option.bind_some, e_gO H, Option.bind_some, q2, q3]
      exact g2 c _ _ k3 k4
  have seg : ∀ {g : List (Nat × Int32)} {a b : Nat}, m_sg o a b g → g.length + a = b := fun s => by
    obtain ⟨p, s, e1, e2, e3⟩ := s
    exact e3
  refine m_Vi (q := q) (v := v) (P := fun q v => ∀ (n : Nat) {l2 : Int32} {M : gM}, y_HT M → e_W M w → r_rl M t o ms → q ≤ 12 → l2.toInt = (q : Int) → 13 < n + q → Ok (F_X12_summedBy_L2 n (some 175) l1 l2 M) (fun r => r.1 = v ∧ e_Fz M r.2)) ?_ ?_ ?_ ?_ V
  · intro q hq n l2 M H W R hq12 h2 hn
    obtain ⟨n, rfl⟩ : ∃ m, n = m + 1 := ⟨n - 1, by omega⟩
    have n1 := R.1.1
    show Ok (F_X12_summedBy_b2 (F_X12_summedBy_L2 n) (some 175) l1 l2 M) _
    delta F_X12_summedBy_b2
    rw [e_gR H (w := 180) rfl (by decide), Option.bind_some, e_aI H (t := 20) (i := 180) (n := 6) rfl (by decide) (by omega) (by omega), Option.bind_some, i_cl ht, if_pos (Int32.le_iff_toInt_le.mpr (by omega))]
    exact Ok_s ⟨rfl, e_zr H⟩
  · intro q m g v hm h0 s1 E n l2 M H W R hq12 h2 hn
    obtain ⟨n, rfl⟩ : ∃ m, n = m + 1 := ⟨n - 1, by omega⟩
    exact hd H R hq12 h2 hm (fun _ => E_sum_b58 ht ht5 H W R (pl hq12 h2).1 hm s1 E) (fun c => absurd h0 c)
  · intro q m g g2 v hm h0 s2 E2 s1 E n l2 M H W R hq12 h2 hn
    obtain ⟨n, rfl⟩ : ∃ m, n = m + 1 := ⟨n - 1, by omega⟩
    have sl := m_sg_le s2
    refine hd H R hq12 h2 hm (fun c => absurd c h0) (fun _ x y hx hy => ?_)
    refine Ok_b (E_run ht ht5 H W (m_L_sg R.2.1.1 s2) E2 (by decide) hx hy (seg s2) (by have := R.2.1.2.1; omega)) (fun r z => ?_)
    obtain ⟨v5, M6⟩ := r
    obtain ⟨e5, f6⟩ := z
    dsimp only at e5 f6 ⊢
    subst e5
    rw [if_pos (by decide)]
    exact Ok_w (E_sum_b58 ht ht5 f6.1.1 (e_Wz W f6) (r_rl_z R f6) (pl hq12 h2).1 hm s1 E) (fun r z => ⟨z.1, e_zt f6 z.2⟩)
  · intro q m g2 v hm h0 s2 E2 ih n l2 M H W R hq12 h2 hn
    obtain ⟨n, rfl⟩ : ∃ m, n = m + 1 := ⟨n - 1, by omega⟩
    have sl := m_sg_le s2
    have hlt := m_nth_lt hm
    have lm := R.2.1.2.2
    refine hd H R hq12 h2 hm (fun c => absurd c h0) (fun _ x y hx hy => ?_)
    refine Ok_b (E_run ht ht5 H W (m_L_sg R.2.1.1 s2) E2 (by decide) hx hy (seg s2) (by have := R.2.1.2.1; omega)) (fun r z => ?_)
    obtain ⟨v5, M6⟩ := r
    obtain ⟨e5, f6⟩ := z
    dsimp only at e5 f6 ⊢
    subst e5
    rw [if_neg (by decide)]
    exact Ok_w (ih n f6.1.1 (e_Wz W f6) (r_rl_z R f6) (by omega) (i_nx h2 (by omega)) (by omega)) (fun r z => ⟨z.1, e_zt f6 z.2⟩)
theorem E_summedBy {w : Nat → Int64} {t : Nat} {o : List (Nat × Int32)} {ms : List (Nat × Nat × Nat)} {v : Int64} {l1 : Int32} {M : gM} (ht : l1.toInt = (t : Int)) (ht5 : t ≤ 5) (H : y_HT M) (W : e_W M w) (R : r_rl M t o ms) (V : m_V w o ms 0 v) : Ok (F_X12_summedBy (some 175) l1 M) (fun r => r.1 = v ∧ e_Fz M r.2) := by
  delta F_X12_summedBy F_X12_summedBy_b0
  exact E_sum_L2 ht ht5 V g_fuel (l2 := (0 : Int32)) H W R (by decide) rfl (by have : g_fuel = 1000000000 := rfl; omega)
-- 7za1.loss
/-! losses, whatever the RULE IN FORCE; a YEAR -/
def s_cp (v : Int64) : Int32 := ((if (if v < (99 : Int64) then v else (99 : Int64)) < (0 : Int64) then (0 : Int64) else (if v < (99 : Int64) then v else (99 : Int64)))).toInt32
theorem l_lt {a b : Int64} : a < b ↔ a.toInt < b.toInt := Int64.lt_iff_toInt_lt
theorem s_cp_c (v : Int64) : (v.toInt < 0 ∧ s_cp v = 0) ∨ ((0 ≤ v.toInt ∧ v.toInt < 99) ∧ s_cp v = v.toInt32) ∨ (99 ≤ v.toInt ∧ s_cp v = 99) := by
  have z0 : (0 : Int64).toInt = 0 := rfl
  have z9 : (99 : Int64).toInt = 99 := rfl
  unfold s_cp
  by_cases c : v < (99 : Int64)
  · have c' := l_lt.mp c
    rw [if_pos c]
    by_cases d : v < (0 : Int64)
    · have d' := l_lt.mp d
      rw [if_pos d]
      exact Or.inl ⟨by omega, rfl⟩
    · have d' := mt l_lt.mpr d
      rw [if_neg d]
      exact Or.inr (Or.inl ⟨by omega, rfl⟩)
  · have c' := mt l_lt.mpr c
    rw [if_neg c, if_neg (by decide)]
    exact Or.inr (Or.inr ⟨by omega, rfl⟩)
theorem s_cp_r (v : Int64) : 0 ≤ (s_cp v).toInt ∧ (s_cp v).toInt ≤ 99 := by
  rcases s_cp_c v with ⟨_, h⟩ | ⟨h1, h⟩ | ⟨_, h⟩
  · rw [h]
    decide
  · rw [h, Int64.toInt_toInt32]
    have : v.toInt.bmod (2 ^ 32) = v.toInt := i_bm (by omega) (by omega)
    rw [this]
    omega
  · rw [h]
    decide
theorem lg_r (x y : Int64) : (lg_cmp x y = 1 ∧ y.toInt < x.toInt) ∨ (lg_cmp x y = 0 ∧ x.toInt = y.toInt) ∨ (lg_cmp x y = -1 ∧ x.toInt < y.toInt) := by
  unfold lg_cmp
  by_cases c : x > y
  · rw [if_pos c]
    exact Or.inl ⟨rfl, l_lt.mp c⟩
  · have c' := mt l_lt.mpr c
    rw [if_neg c]
    by_cases d : x = y
    · rw [if_pos d, d]
      exact Or.inr (Or.inl ⟨rfl, rfl⟩)
    · rw [if_neg d]
      have : x.toInt ≠ y.toInt := fun z => d (Int64.toInt_inj.mp z)
      exact Or.inr (Or.inr ⟨rfl, by omega⟩)
theorem s_cp_e {α : Type} {v : Int64} {M : α} : (if 0 ≤ (lg_cmp v (0 : Int64)) then (if (lg_cmp v (99 : Int64)) ≤ 0 then (some ((v).toInt32, M)) else (some ((99 : Int32), M))) else (some ((0 : Int32), M))) = some (s_cp v, M) := by
  have z0 : (0 : Int64).toInt = 0 := rfl
  have z9 : (99 : Int64).toInt = 99 := rfl
  have q := s_cp_c v
  have n1 : ¬ (0 : Int32) ≤ -1 := by decide
  have n2 : ¬ (1 : Int32) ≤ 0 := by decide
  rcases lg_r v 0 with ⟨a, b⟩ | ⟨a, b⟩ | ⟨a, b⟩ <;> rcases lg_r v 99 with ⟨c, d⟩ | ⟨c, d⟩ | ⟨c, d⟩ <;> rw [a, c] <;> rcases q with ⟨e, f⟩ | ⟨e, f⟩ | ⟨e, f⟩ <;> first | (exfalso; omega) | (rw [f]; rfl) | skip
  all_goals
    have : v = 99 := Int64.toInt_inj.mp (by omega)
    rw [f, this]
    rfl
abbrev s_Ru : Type := Option (List (Nat × Int32) × List (Nat × Nat × Nat))
noncomputable def m_v (w : Nat → Int64) (o : List (Nat × Int32)) (ms : List (Nat × Nat × Nat)) : Int64 := Classical.epsilon (fun v => m_V w o ms 0 v)
theorem m_v_V {w : Nat → Int64} {o : List (Nat × Int32)} {ms : List (Nat × Nat × Nat)} (R : m_R o ms) : m_V w o ms 0 (m_v w o ms) := Classical.epsilon_spec (m_V_ex R ms.length 0 (by omega))
noncomputable def s_Lr (r : s_Ru) (σ : Nat → Int32) (h t : Nat) : Int32 := match r with
  | none => s_pl σ h t
  | some x => s_cp (m_v (s_wd σ h t) x.1 x.2)
noncomputable def s_Ls (r : s_Ru) (σ : Nat → Int32) (h t : Nat) : Int32 := if h < hs_m σ ∧ t < hs_n σ then s_Lr r σ h t else 0
theorem s_Ls_in {r : s_Ru} {σ : Nat → Int32} {h t : Nat} (hh : h < hs_m σ) (ht : t < hs_n σ) : s_Ls r σ h t = s_Lr r σ h t := if_pos ⟨hh, ht⟩
theorem s_Ls_LV {r : s_Ru} {σ : Nat → Int32} (V : s_V σ) : s_LV (s_Ls r σ) := by
  intro h t
  unfold s_Ls
  by_cases c : h < hs_m σ ∧ t < hs_n σ
  · rw [if_pos c]
    cases r with
    | none =>
      have := s_pl_r V c.1 c.2
      show 0 ≤ (s_pl σ h t).toInt ∧ (s_pl σ h t).toInt ≤ 99
      omega
    | some x => exact s_cp_r _
  · rw [if_neg c]
    decide
noncomputable def s_yr (r : s_Ru) (σ : Nat → Int32) : Int32 × (Nat → Int32) := s_ps σ (s_Ls r σ)
theorem yr_lo {r : s_Ru} {σ : Nat → Int32} (V : s_V σ) {j : Nat} (hj : j < 10) (h4 : j ≠ 4) : (s_yr r σ).2 j = σ j := by
  show hs_set (s_p3 σ (s_Ls r σ)).2 4 ((s_p3 σ (s_Ls r σ)).2 4 + 1) j = σ j
  rw [hs_sn h4]
  exact p3_nm V hj
theorem yr_4 {r : s_Ru} {σ : Nat → Int32} (V : s_V σ) : (s_yr r σ).2 4 = σ 4 + 1 := by
  show hs_set (s_p3 σ (s_Ls r σ)).2 4 ((s_p3 σ (s_Ls r σ)).2 4 + 1) 4 = σ 4 + 1
  rw [hs_se, p3_4 V]
theorem yr_nm {r : s_Ru} {σ : Nat → Int32} (V : s_V σ) : hs_n (s_yr r σ).2 = hs_n σ ∧ hs_m (s_yr r σ).2 = hs_m σ := nm_of (fun j hj => yr_lo V (by omega) (by omega))
theorem yr_Vx {r : s_Ru} {σ : Nat → Int32} (V : s_V σ) (hy : 0 ≤ (σ 4).toInt) : s_V (s_yr r σ).2 := ps_V V (s_Ls_LV V) hy
/-! of the class -/
def c_J (r : s_Ru) (rl : Option Nat) (M : gM) : Prop := k_Z M ∧ match r, rl with
  | none, none => True
  | some x, some j => ∃ js jm, (196 < j ∧ 196 < js ∧ 196 < jm) ∧ k_rl M j js jm x.1 x.2
  | _, _ => False
/-- frame of a YEAR: the years' own cells and the State at s -/
def k_Fy (s : Nat) (M M' : gM) : Prop := (M'.1 = M.1 ∧ M'.2.2.2 = M.2.2.2) ∧ ∀ i, ¬ (5 ≤ i ∧ i ≤ 8) → ¬ (s ≤ i ∧ i ≤ s + 4) → M'.2.1 i = M.2.1 i ∧ M'.2.2.1 i = M.2.2.1 i
theorem k_Fy_r {s : Nat} {M : gM} : k_Fy s M M := ⟨⟨rfl, rfl⟩, fun _ _ _ => ⟨rfl, rfl⟩⟩
theorem k_Fy_t {s : Nat} {M M1 M2 : gM} (h1 : k_Fy s M M1) (h2 : k_Fy s M1 M2) : k_Fy s M M2 := ⟨⟨h2.1.1.trans h1.1.1, h2.1.2.trans h1.1.2⟩, fun i a b => ⟨(h2.2 i a b).1.trans (h1.2 i a b).1, (h2.2 i a b).2.trans (h1.2 i a b).2⟩⟩
theorem k_Fy_58 {s : Nat} {M M' : gM} (h : k_F58 M M') : k_Fy s M M' := ⟨h.1, fun i a _ => h.2 i (by omega)⟩
theorem k_Fy_s {s : Nat} {M M' : gM} (h : k_Fs s M M') : k_Fy s M M' := ⟨⟨h.1.1.1, h.1.2⟩, fun i _ b => ⟨h.2 i (by omega), by rw [h.1.1.2]⟩⟩
theorem k_Z_m {M M' : gM} (Z : k_Z M) (h1 : M'.1 = M.1) (h2 : M'.2.2.2 = M.2.2.2) : k_Z M' := by
  have hk : ∀ i, g_k M' i = g_k M i := fun i => q_k_of h1
  unfold k_Z at Z ⊢
  simp only [hk, h2]
  exact Z
theorem k_rl_m {M M' : gM} {j js jm : Nat} {o : List (Nat × Int32)} {ms : List (Nat × Nat × Nat)} (R : k_rl M j js jm o ms) (h1 : M'.1 = M.1) (h2 : M'.2.2.2 = M.2.2.2) (h3 : M'.2.1 js = M.2.1 js) (h4 : M'.2.1 jm = M.2.1 jm) : k_rl M' j js jm o ms := by
  have hk : ∀ i, g_k M' i = g_k M i := fun i => q_k_of h1
  unfold k_rl at R ⊢
  rw [hk, hk, hk, h2, h3, h4]
  exact R
theorem c_J_m {r : s_Ru} {rl : Option Nat} {M M' : gM} (J : c_J r rl M) (h1 : M'.1 = M.1) (h2 : M'.2.2.2 = M.2.2.2) (h3 : ∀ i, 196 < i → M'.2.1 i = M.2.1 i) : c_J r rl M' := by
  refine ⟨k_Z_m J.1 h1 h2, ?_⟩
  have J2 := J.2
  cases r with
  | none => cases rl with
    | none => trivial
    | some j => exact J2
  | some x => cases rl with
    | none => exact J2
    | some j =>
      obtain ⟨js, jm, ⟨a0, a1, a2⟩, R⟩ := J2
      exact ⟨js, jm, ⟨a0, a1, a2⟩, k_rl_m R h1 h2 (h3 js a1) (h3 jm a2)⟩
theorem c_J_58 {r : s_Ru} {rl : Option Nat} {M M' : gM} (J : c_J r rl M) (f : k_F58 M M') : c_J r rl M' := c_J_m J f.1.1 f.1.2 (fun i hi => (f.2 i (by omega)).1)
theorem C_LO_r {s e : Nat} {σ : Nat → Int32} {r : s_Ru} {rl : Option Nat} (hs8 : 8 < s) (he : 8 < e) (V : s_V σ) : C_LO (c_J r rl) s e σ (s_Ls r σ) rl := by
  intro M h t l4 l5 f P X Y Jx h4 h5 hh ht k g
  have nn := s_Vn V
  have Z := Jx.1
  have J2 := Jx.2
  rw [s_Ls_in hh ht] at g
  cases r with
  | none => cases rl with
    | none => exact C_LO_none (fun M M' => c_J_58) M h t l4 l5 f P X Y Jx h4 h5 hh ht k g
    | some j => exact absurd J2 (fun z => z)
  | some x => cases rl with
    | none => exact absurd J2 (fun z => z)
    | some j =>
      obtain ⟨js, jm, ⟨a0, a1, a2⟩, R⟩ := J2
      have ix := k_ix h4 h5 (by omega) (by omega)
      rw [if_neg (by simp)]
      refine x_gR Y.1.1.1 Y.2.2 (x_gO Z.1.1.1 ?_)
      refine Ok_b (C_look Z X h4 h5 hh ht k) (fun M6 a => ?_)
      have Y6 := k_Y_m Y a.1.1.1 a.1.1.2
      have Z6 := w_Az a Z
      have R6 := k_rl_m R a.1.1.1 a.1.1.2 (congrFun a.1.2.1 js) (congrFun a.1.2.1 jm)
      refine x_gR Y6.1.1.1 Y6.2.1 (x_gR Y6.1.1.1 Y6.2.2 (x_gO Z6.1.1.1 ?_))
      refine Ok_b (C_loss Z6 (fun i hi => a.2 i (by omega)) R6 (m_v_V R.2.2.2)) (fun y z => ?_)
      obtain ⟨v10, M11⟩ := y
      obtain ⟨e10, f11⟩ := z
      dsimp only at e10 f11 ⊢
      have Y11 := k_Y_m Y6 f11.1.1 f11.1.2
      refine x_sI Y11.1.1.2 ix (by omega) ?_
      have F1 : k_F58 M M11 := ⟨⟨f11.1.1.trans a.1.1.1, f11.1.2.trans a.1.1.2⟩, fun i hi => ⟨(f11.2.1 i (by omega)).trans (congrFun a.1.2.1 i), (f11.2.2 i (by omega)).trans (a.1.2.2 i (by omega))⟩⟩
      have F2 : k_F58 M (mI M11 5 (7 * h + t) (s_cp v10)) := k_58t F1 (k_58I (by omega))
      refine g _ F2 (c_J_58 Jx F2) ?_ (fun b hb => ?_)
      · rw [y_mI1, e10]
        rfl
      · rw [mI_ne (Or.inr hb), f11.2.1 5 (by decide), a.1.2.1]
theorem C_year {M : gM} {s e : Nat} {σ : Nat → Int32} {r : s_Ru} {rl : Option Nat} (hs : 8 < s ∧ s + 4 < 197) (he : 8 < e) (hd : e + 5 < s ∨ s + 4 < e) (Y : k_Y M) (X : k_X M s e σ) (hy : 0 ≤ (σ 4).toInt) (J : c_J r rl M) : Ok (F_X10_pass (some 4) (some e) (some s) rl M) (fun q => q.1 = (s_yr r σ).1 ∧ (k_X q.2 s e (s_yr r σ).2 ∧ c_J r rl q.2 ∧ k_Y q.2) ∧ k_Fy s M q.2) := by
  refine Ok_w (C_pass (W := fun M M2 => c_J r rl M2 ∧ k_F58 M M2) (L := s_Ls r σ) (by omega) hd Y X.2.2 (s_Ls_LV X.2.2) hy (C_weigh hs.1 he Y X J (fun M M' => c_J_58) (C_LO_r hs.1 he X.2.2))) (fun q z => ?_)
  obtain ⟨z1, M2, ⟨J2, f2⟩, f3, X3⟩ := z
  have f := k_Fy_t (k_Fy_58 f2) (k_Fy_s (s := s) f3)
  exact ⟨z1, ⟨X3, c_J_m J2 f3.1.1.1 f3.1.2 (fun i hi => f3.2 i (by omega)), k_Y_m Y f.1.1 f.1.2⟩, f⟩
/-! of the reference -/
def e_I (r : s_Ru) (M : gM) : Prop := match r with
  | none => (M.2.1 175 21).toInt < 0
  | some x => ∃ t : Nat, t ≤ 5 ∧ (M.2.1 175 21).toInt = (t : Int) ∧ r_rl M t x.1 x.2
theorem e_I_m {S : Nat} {r : s_Ru} {M M' : gM} (I : e_I r M) (f : y_Fr S M M') (h : Nat.land S (2 ^ 21 + 2 ^ 42 + 2 ^ 44 + 2 ^ 45) = 0) : e_I r M' := by
  have e21 : M'.2.1 175 21 = M.2.1 175 21 := y_fk (i := 175) (k := 21) f (y_dis h (by decide))
  cases r with
  | none =>
    show (M'.2.1 175 21).toInt < 0
    rw [e21]
    exact I
  | some x =>
    obtain ⟨t, h1, h2, h3⟩ := I
    refine ⟨t, h1, by rw [e21]; exact h2, ?_⟩
    have e1 : M'.2.1 179 = M.2.1 179 := funext (fun q => y_fa (i := 179) f (by decide) (y_dis h (by decide)) q)
    have e2 : M'.2.1 180 = M.2.1 180 := funext (fun q => y_fa (i := 180) f (by decide) (y_dis h (by decide)) q)
    have e3 : y_sn M' t = y_sn M t := y_snf f (y_dis h (by decide)) t
    unfold r_rl at h3 ⊢
    rw [e1, e2, e3]
    exact h3
theorem E_LO_r {σ : Nat → Int32} {r : s_Ru} : e_LO (e_I r) σ (s_Ls r σ) := by
  intro M h t l1 l2 X I h1 h2 hh ht k
  have nn := s_Vn X.2.2
  rw [s_Ls_in hh ht]
  have H := X.1
  have z0 : (0 : Int32).toInt = 0 := rfl
  delta F_X12_lossOf F_X12_lossOf_b0
  rw [e_gI H, Option.bind_some]
  cases r with
  | none =>
    have I' : (M.2.1 175 21).toInt < 0 := I
    have i38 := i_mulL (c := (2 : Int32)) (x := l1) (n := 2) rfl (by omega) (by omega)
    have j38 := i_cadd (c := (38 : Int32)) (x := (2 : Int32) * l1) (n := 38) rfl (by omega) (by omega)
    rw [if_neg (fun z => by have := i_le z; omega), e_sd X (k := 38 + 2 * h) (by omega) (by omega), e_gO H, Option.bind_some, E_fades X h1 h2 hh ht, Option.bind_some]
    exact Ok_s ⟨rfl, ⟨H, I⟩, y_rf0 _ _⟩
  | some x =>
    obtain ⟨u, u5, eu, R⟩ := I
    rw [if_pos (Int32.le_iff_toInt_le.mpr (by omega)), e_gO H, Option.bind_some]
    refine Ok_b (E_words X h1 h2 hh ht) (fun M3 a => ?_)
    have H3 := a.1.1.1
    have e21 : M3.2.1 175 21 = M.2.1 175 21 := congrFun (congrFun a.1.2 175) 21
    rw [e_gI H3, Option.bind_some, e_gC H3, Option.bind_some]
    refine Ok_b (E_summedBy (w := s_wd σ h t) (by rw [e21]; exact eu) u5 H3 (fun i hi => a.2 i (by omega)) (r_rl_m R a.1.1.2 (by decide)) (m_v_V R.2.2)) (fun y z => ?_)
    obtain ⟨v6, M7⟩ := y
    obtain ⟨e6, f7⟩ := z
    dsimp only at e6 f7 ⊢
    rw [s_cp_e]
    have F := y_tr a.1.1.2 f7.1.2
    refine Ok_s ⟨?_, ⟨f7.1.1, ?_⟩, F⟩
    · show s_cp v6 = _
      rw [e6]
      rfl
    · exact e_I_m (r := some x) ⟨u, u5, eu, R⟩ F (by decide)
theorem E_year {M : gM} {σ : Nat → Int32} {r : s_Ru} (X : e_V M σ) (I : e_I r M) (hy : 0 ≤ (σ 4).toInt) : Ok (F_X12_passes (some 175) M) (fun q => q.1 = (s_yr r σ).1 ∧ e_C (e_I r) M q.2 (s_yr r σ).2) :=
  E_passes (fun M M' I _ f => e_I_m I f (by decide)) X I (s_Ls_LV X.2.2) hy E_LO_r
-- 7za2.rel
/-! class and reference hold the same: what is now, what can be undone, IMAGES, RULES -/
theorem s_V_congr {σ σ' : Nat → Int32} (V : s_V σ) (h : ∀ j, j < 157 → σ' j = σ j) : s_V σ' := by
  have nn := s_Vn V
  obtain ⟨V1, V2, V3, V4⟩ := V
  have h1 := h 1 (by decide)
  have h2 := h 2 (by decide)
  unfold s_V s_va s_st
  rw [h1, h2]
  refine ⟨V1, fun a t ha ht => ?_, fun t ht => ?_, fun a ha => ?_⟩
  · rw [h _ (by omega), h _ (by omega)]
    exact V2 a t ha ht
  · rw [h _ (by omega), h _ (by omega), h _ (by omega), h _ (by omega)]
    exact V3 t ht
  · rw [h _ (by omega), h _ (by omega)]
    exact V4 a ha
theorem k_X_congr {M : gM} {s e : Nat} {σ σ' : Nat → Int32} (X : k_X M s e σ) (h : ∀ j, j < 157 → σ' j = σ j) : k_X M s e σ' := by
  have nn := s_Vn X.2.2
  have V' := s_V_congr X.2.2 h
  obtain ⟨L, ⟨⟨⟨⟨E1, E2⟩, E3⟩, ⟨E4, E5⟩, E6, E7⟩, ⟨⟨S1, S2⟩, S3⟩, S4, S5⟩, V⟩ := X
  have h1 := h 1 (by decide)
  have h2 := h 2 (by decide)
  refine ⟨L, ⟨⟨⟨⟨E1.trans h1.symm, E2.trans h2.symm⟩, E3.trans (h 3 (by decide)).symm⟩, ⟨E4.trans (h 7 (by decide)).symm, E5.trans (h 6 (by decide)).symm⟩, ?_, ?_⟩, ⟨⟨S1.trans (h 8 (by decide)).symm, S2.trans (h 4 (by decide)).symm⟩, S3.trans (h 5 (by decide)).symm⟩, ?_, ?_⟩, V'⟩
  · intro t ht
    rw [h1] at ht
    rw [h _ (by omega), h _ (by omega), h _ (by omega)]
    exact E6 t ht
  · intro a ha
    rw [h2] at ha
    rw [h _ (by omega), h _ (by omega)]
    exact E7 a ha
  · intro a ha
    rw [h2] at ha
    refine ⟨?_, fun t ht => ?_⟩
    · rw [h _ (by omega)]
      exact (S4 a ha).1
    · have := (S4 a ha).2 t ht
      unfold k_c at this ⊢
      rw [h _ (by omega), h _ (by omega)]
      exact this
  · intro t ht
    rw [h1] at ht
    rw [h _ (by omega)]
    exact S5 t ht
/-- numbers that can be -/
def s_Qc (σ : Nat → Int32) : Prop := hs_m σ ≤ 7 ∧ ∀ a b : Nat, a < hs_m σ → (σ (52 + a)).toBitVec.getLsbD b = true → (b < hs_m σ ∧ b ≠ a) ∧ (σ (52 + b)).toBitVec.getLsbD a = true
theorem s_Qc_c {σ σ' : Nat → Int32} (Q : s_Qc σ) (h2 : σ' 2 = σ 2) (h : ∀ j, 52 ≤ j → j < 59 → σ' j = σ j) : s_Qc σ' := by
  have e : hs_m σ' = hs_m σ := by unfold hs_m; rw [h2]
  obtain ⟨q1, q2⟩ := Q
  refine ⟨by rw [e]; exact q1, fun a b ha hb => ?_⟩
  rw [e] at ha ⊢
  rw [h _ (by omega) (by omega)] at hb
  have := q2 a b ha hb
  rw [h (52 + b) (by omega) (by omega)]
  exact this
def s_Qd (σ : Nat → Int32) : Prop := hs_n σ ≤ 7 ∧ ∀ t : Nat, t < hs_n σ → (σ (13 + 4 * t)).toInt ≤ 999
theorem s_Qd_c {σ σ' : Nat → Int32} (Q : s_Qd σ) (h1 : σ' 1 = σ 1) (h : ∀ t, t < 7 → σ' (13 + 4 * t) = σ (13 + 4 * t)) : s_Qd σ' := by
  have e : hs_n σ' = hs_n σ := by unfold hs_n; rw [h1]
  obtain ⟨q1, q2⟩ := Q
  refine ⟨by rw [e]; exact q1, fun t ht => ?_⟩
  rw [e] at ht
  rw [h t (by omega)]
  exact q2 t ht
def s_Q (σ : Nat → Int32) : Prop := (0 ≤ (σ 4).toInt ∧ (σ 4).toInt ≤ 999) ∧ (0 ≤ (σ 5).toInt ∧ (σ 5).toInt ≤ 20) ∧ s_Qc σ ∧ s_Qd σ
theorem s_Q_congr {σ σ' : Nat → Int32} (Q : s_Q σ) (h : ∀ j, j < 157 → σ' j = σ j) : s_Q σ' := by
  unfold s_Q at Q ⊢
  rw [h 4 (by decide), h 5 (by decide)]
  exact ⟨Q.1, Q.2.1, s_Qc_c Q.2.2.1 (h 2 (by decide)) (fun j _ hj => h j (by omega)), s_Qd_c Q.2.2.2 (h 1 (by decide)) (fun t ht => h _ (by omega))⟩
def w_h (e : Nat) : Prop := e = 125 ∨ 196 < e
/-- a House at e, a State at s: they hold the cells -/
def w_X (M : gM) (s e : Nat) (σ : Nat → Int32) : Prop := (k_X M s e σ ∧ w_h e) ∧ (M.2.1 e 5 = if 0 < (σ 0).toInt then 1 else 0) ∧ s_Q σ
theorem w_X_congr {M : gM} {s e : Nat} {σ σ' : Nat → Int32} (X : w_X M s e σ) (h : ∀ j, j < 157 → σ' j = σ j) : w_X M s e σ' := ⟨⟨k_X_congr X.1.1 h, X.1.2⟩, by rw [h 0 (by decide)]; exact X.2.1, s_Q_congr X.2.2 h⟩
/-- frame: all that stood but the places N -/
def w_F (N : Nat → Prop) (M M' : gM) : Prop := (M.1.length ≤ M'.1.length ∧ ∀ i, i < M.1.length → g_k M' i = g_k M i) ∧ ∀ i, i < M.1.length → ¬ N i → M'.2.1 i = M.2.1 i ∧ M'.2.2.2 i = M.2.2.2 i
theorem w_F_r {N : Nat → Prop} {M : gM} : w_F N M M := ⟨⟨Nat.le_refl _, fun _ _ => rfl⟩, fun _ _ _ => ⟨rfl, rfl⟩⟩
theorem w_F_t {N : Nat → Prop} {M M1 M2 : gM} (h1 : w_F N M M1) (h2 : w_F N M1 M2) : w_F N M M2 :=
  ⟨⟨Nat.le_trans h1.1.1 h2.1.1, fun i hi => (h2.1.2 i (Nat.lt_of_lt_of_le hi h1.1.1)).trans (h1.1.2 i hi)⟩, fun i hi hn => ⟨(h2.2 i (Nat.lt_of_lt_of_le hi h1.1.1) hn).1.trans (h1.2 i hi hn).1, (h2.2 i (Nat.lt_of_lt_of_le hi h1.1.1) hn).2.trans (h1.2 i hi hn).2⟩⟩
theorem w_F_w {N N' : Nat → Prop} {M M' : gM} (h : w_F N M M') (hn : ∀ i, N i → N' i) : w_F N' M M' := ⟨h.1, fun i hi n => h.2 i hi (fun z => n (hn i z))⟩
theorem w_F_of {N : Nat → Prop} {M M' : gM} (h1 : M'.1 = M.1) (h2 : M'.2.2.2 = M.2.2.2) (h3 : ∀ i, ¬ N i → M'.2.1 i = M.2.1 i) : w_F N M M' := ⟨⟨by rw [h1]; exact Nat.le_refl _, fun i _ => q_k_of h1⟩, fun i _ hn => ⟨h3 i hn, by rw [h2]⟩⟩
theorem w_F_Fs {s : Nat} {M M' : gM} (f : k_Fs s M M') : w_F (fun i => s ≤ i ∧ i ≤ s + 4) M M' := w_F_of f.1.1.1 f.1.2 (fun i hi => f.2 i (by omega))
theorem w_F_Fy {s : Nat} {M M' : gM} (f : k_Fy s M M') : w_F (fun i => (5 ≤ i ∧ i ≤ 8) ∨ (s ≤ i ∧ i ≤ s + 4)) M M' := w_F_of f.1.1 f.1.2 (fun i hi => (f.2 i (by omega) (by omega)).1)
theorem w_F_mI {N : Nat → Prop} {M : gM} {i k : Nat} {v : Int32} (h : N i) : w_F N M (mI M i k v) := w_F_of rfl rfl (fun j hj => g_up_ne _ _ _ (fun z => hj (by rw [z]; exact h)))
theorem w_F_yr {S : Nat} {N : Nat → Prop} {M M' : gM} (f : y_Fr S M M') (h : ∀ i, y_cs i → N i) : w_F N M M' := w_F_of f.1.1 f.1.2 (fun i hi => (f.2.2 i (fun z => hi (h i z))).1)
theorem w_X_F {N : Nat → Prop} {M M' : gM} {s e : Nat} {σ : Nat → Int32} (X : w_X M s e σ) (f : w_F N M M') (hs : ∀ i, s ≤ i → i ≤ s + 4 → ¬ N i) (he : ∀ i, e ≤ i → i ≤ e + 5 → ¬ N i) : w_X M' s e σ := by
  obtain ⟨⟨⟨⟨LE, LS⟩, ⟨E, S⟩, V⟩, wh⟩, t, Q⟩ := X
  have kl : ∀ {i : Nat} {q : Nat × Nat}, g_k M i = q → q.1 < 90 → i < M.1.length := fun h hq => q_kl (by rw [h]; exact hq)
  have le : ∀ i, e ≤ i → i ≤ e + 5 → i < M.1.length := fun i h1 h2 => by
    by_cases h : i = e
    · rw [h]; exact kl LE.1 (by decide)
    · rw [show i = e + 1 + (i - (e + 1)) by omega]; exact kl (LE.2 (i - (e + 1)) (by omega)).1 (by decide)
  have ls : ∀ i, s ≤ i → i ≤ s + 4 → i < M.1.length := fun i h1 h2 => by
    rcases (by omega : i = s ∨ i = s + 1 ∨ i = s + 2 ∨ i = s + 3 ∨ i = s + 4) with h | h | h | h | h <;> rw [h]
    · exact kl LS.1.1 (by decide)
    · exact kl LS.1.2.1.1 (by decide)
    · exact kl LS.1.2.1.2 (by decide)
    · exact kl LS.1.2.2.1 (by decide)
    · exact kl LS.1.2.2.2 (by decide)
  have ie : ∀ i, e ≤ i → i ≤ e + 5 → g_k M' i = g_k M i ∧ M'.2.1 i = M.2.1 i ∧ M'.2.2.2 i = M.2.2.2 i := fun i h1 h2 => ⟨f.1.2 i (le i h1 h2), f.2 i (le i h1 h2) (he i h1 h2)⟩
  have is : ∀ i, s ≤ i → i ≤ s + 4 → g_k M' i = g_k M i ∧ M'.2.1 i = M.2.1 i ∧ M'.2.2.2 i = M.2.2.2 i := fun i h1 h2 => ⟨f.1.2 i (ls i h1 h2), f.2 i (ls i h1 h2) (hs i h1 h2)⟩
  have e0 := ie e (by omega) (by omega)
  have s0 := is s (by omega) (by omega)
  have s1 := is (s + 1) (by omega) (by omega)
  have s2 := is (s + 2) (by omega) (by omega)
  have s3 := is (s + 3) (by omega) (by omega)
  have s4 := is (s + 4) (by omega) (by omega)
  refine ⟨⟨⟨⟨⟨e0.1.trans LE.1, fun k hk => ?_⟩, ?_⟩, ⟨k_Em E (fun i k h1 h2 _ => by rw [(ie i h1 h2).2.1]), k_Sm S (fun i k h1 h2 => by rw [(is i h1 h2).2.1])⟩, V⟩, wh⟩, by rw [e0.2.1]; exact t, Q⟩
  · rw [(ie (e + 1 + k) (by omega) (by omega)).1, e0.2.2]
    exact LE.2 k hk
  · unfold k_LS at LS ⊢
    rw [s0.1, s1.1, s2.1, s3.1, s4.1, s0.2.2]
    exact LS
/-- what can be undone: a ring -/
def w_Cp (M : gM) (e nx sz : Nat) (P : Nat → Nat → Int32) : Prop := (((M.2.1 19 1).toInt = (nx : Int) ∧ (M.2.1 19 2).toInt = (sz : Int)) ∧ nx < 20 ∧ sz ≤ 20) ∧ ∀ i, i < sz → w_X M (21 + 5 * ((nx + 20 - sz + i) % 20)) e (P i)
/-- IMAGES -/
def w_Ci (M : gM) (I : Nat → Nat → Int32) : Prop := ∀ k, k < 4 → M.2.2.2 (151 + 6 * k) 0 = some (152 + 6 * k) ∧ ∀ e, M.2.2.2 (151 + 6 * k) 1 = some e → w_X M (152 + 6 * k) e (I k)
/-- RULES -/
def w_Cr (M : gM) (rc : Nat) (R : Nat → List (Nat × Int32) × List (Nat × Nat × Nat)) : Prop := (M.2.1 2 12).toInt = (rc : Int) ∧ ∀ t, t < rc → ∃ j js jm, M.2.2.2 3 t = some j ∧ (196 < j ∧ 196 < js ∧ 196 < jm) ∧ k_rl M j js jm (R t).1 (R t).2
def w_C (M : gM) (e : Nat) (σ : Nat → Int32) (nx sz : Nat) (P : Nat → Nat → Int32) (I : Nat → Nat → Int32) (rc : Nat) (R : Nat → List (Nat × Int32) × List (Nat × Nat × Nat)) : Prop := ((M.2.2.2 2 11 = some e ∧ w_X M 9 e σ) ∧ w_Cp M e nx sz P) ∧ w_Ci M I ∧ w_Cr M rc R
def w_E (M : gM) (σ : Nat → Int32) (sz : Nat) (P : Nat → Nat → Int32) (I : Nat → Nat → Int32) (rc : Nat) (R : Nat → List (Nat × Int32) × List (Nat × Nat × Nat)) : Prop := ((M.2.1 185 = σ ∧ (M.2.1 175 25).toInt = (sz : Int)) ∧ ∀ i, i < sz → ∀ j, j < 157 → M.2.1 187 (157 * i + j) = P i j) ∧ (∀ k, k < 4 → ∀ j, j < 157 → M.2.1 193 (157 * k + j) = I k j) ∧ (M.2.1 175 2).toInt = (rc : Int) ∧ ∀ t, t < rc → r_rl M t (R t).1 (R t).2
theorem w_Cp_F {N : Nat → Prop} {M M' : gM} {e nx sz : Nat} {P : Nat → Nat → Int32} (C : w_Cp M e nx sz P) (hl : 197 ≤ M.1.length) (he : w_h e) (f : w_F N M M') (h1 : ∀ i, N i → (i < 19 ∨ i = 20 ∨ 120 < i) ∧ (i < 125 ∨ (130 < i ∧ i < 197))) : w_Cp M' e nx sz P := by
  have e19 := (f.2 19 (by omega) (fun z => by have := h1 _ z; omega)).1
  refine ⟨by rw [e19]; exact C.1, fun i hi => w_X_F (C.2 i hi) f (fun j a b z => ?_) (fun j a b z => ?_)⟩
  · have := h1 _ z
    have := C.1.2
    omega
  · have := h1 _ z
    unfold w_h at he
    omega
theorem w_Ci_F {N : Nat → Prop} {M M' : gM} {I : Nat → Nat → Int32} (C : w_Ci M I) (hl : 197 ≤ M.1.length) (f : w_F N M M') (h1 : ∀ i, N i → (i < 151 ∨ 174 < i) ∧ (i < 125 ∨ (130 < i ∧ i < 197))) : w_Ci M' I := by
  intro k hk
  have e1 := (f.2 (151 + 6 * k) (by omega) (fun z => by have := h1 _ z; omega)).2
  rw [e1]
  refine ⟨(C k hk).1, fun e he => ?_⟩
  have X := (C k hk).2 e he
  refine w_X_F X f (fun j a b z => ?_) (fun j a b z => ?_)
  · have := h1 _ z
    omega
  · have := h1 _ z
    have wh := X.1.2
    unfold w_h at wh
    omega
theorem w_Cr_F {N : Nat → Prop} {M M' : gM} {rc : Nat} {R : Nat → List (Nat × Int32) × List (Nat × Nat × Nat)} (C : w_Cr M rc R) (hl : 197 ≤ M.1.length) (f : w_F N M M') (h12 : M'.2.1 2 12 = M.2.1 2 12) (h1 : ∀ i, N i → i ≠ 3 ∧ i < 197) : w_Cr M' rc R := by
  refine ⟨by rw [h12]; exact C.1, fun t ht => ?_⟩
  obtain ⟨j, js, jm, e3, ⟨a0, a1, a2⟩, K⟩ := C.2 t ht
  have lj : j < M.1.length := q_kl (by rw [K.1.1]; decide)
  have ljs : js < M.1.length := q_kl (by rw [K.2.1.1.1]; show 20 < 90; decide)
  have ljm : jm < M.1.length := q_kl (by rw [K.2.1.1.2]; show 20 < 90; decide)
  have no : ∀ i, 196 < i → ¬ N i := fun i hi z => by have := h1 _ z; omega
  have z3 := f.2 3 (by omega) (fun z => (h1 _ z).1 rfl)
  have zj := f.2 j lj (no j a0)
  have zs := f.2 js ljs (no js a1)
  have zm := f.2 jm ljm (no jm a2)
  refine ⟨j, js, jm, by rw [z3.2]; exact e3, ⟨a0, a1, a2⟩, ?_⟩
  unfold k_rl at K ⊢
  rw [f.1.2 j lj, f.1.2 js ljs, f.1.2 jm ljm, zj.2, zs.1, zm.1]
  exact K
/-- the class stands while only N moves -/
theorem w_C_F {N : Nat → Prop} {M M' : gM} {e : Nat} {σ : Nat → Int32} {nx sz : Nat} {P I : Nat → Nat → Int32} {rc : Nat} {R : Nat → List (Nat × Int32) × List (Nat × Nat × Nat)} (C : w_C M e σ nx sz P I rc R) (hl : 197 ≤ M.1.length) (f : w_F N M M') (h11 : M'.2.2.2 2 11 = M.2.2.2 2 11) (h12 : M'.2.1 2 12 = M.2.1 2 12)
    (h1 : ∀ i, N i → ((i < 9 ∨ 13 < i) ∧ (i < 19 ∨ i = 20 ∨ 120 < i)) ∧ (i < 125 ∨ (130 < i ∧ i < 151) ∨ (174 < i ∧ i < 197)) ∧ i ≠ 3) : w_C M' e σ nx sz P I rc R := by
  obtain ⟨⟨⟨c1, X⟩, Cp⟩, Ci, Cr⟩ := C
  have wh := X.1.2
  refine ⟨⟨⟨by rw [h11]; exact c1, w_X_F X f (fun j a b z => ?_) (fun j a b z => ?_)⟩, w_Cp_F Cp hl wh f (fun i z => ?_)⟩, w_Ci_F Ci hl f (fun i z => ?_), w_Cr_F Cr hl f h12 (fun i z => ?_)⟩
  · have := h1 _ z
    omega
  · have := h1 _ z
    unfold w_h at wh
    omega
  · have := h1 _ z
    omega
  · have := h1 _ z
    omega
  · have := h1 _ z
    omega
/-- the class stands while the reference works -/
theorem w_C_r {S : Nat} {M M' : gM} {e : Nat} {σ : Nat → Int32} {nx sz : Nat} {P I : Nat → Nat → Int32} {rc : Nat} {R : Nat → List (Nat × Int32) × List (Nat × Nat × Nat)} (C : w_C M e σ nx sz P I rc R) (hl : 197 ≤ M.1.length) (f : y_Fr S M M') : w_C M' e σ nx sz P I rc R :=
  w_C_F C hl (w_F_yr (N := y_cs) f (fun _ h => h)) (by rw [f.1.2]) (by rw [(f.2.2 2 (by decide)).1]) (fun i z => by unfold y_cs at z; omega)
/-- the reference stands while the class works -/
theorem w_E_c {M M' : gM} {σ : Nat → Int32} {sz : Nat} {P I : Nat → Nat → Int32} {rc : Nat} {R : Nat → List (Nat × Int32) × List (Nat × Nat × Nat)} (E : w_E M σ sz P I rc R) (r : ∀ i, y_cs i → M'.2.1 i = M.2.1 i) : w_E M' σ sz P I rc R := by
  have sn : ∀ t, y_sn M' t = y_sn M t := fun t => funext (fun j => congrFun (r 177 (by decide)) _)
  unfold w_E r_rl at E ⊢
  simp only [sn, r 175 (by decide), r 179 (by decide), r 180 (by decide), r 185 (by decide), r 187 (by decide), r 193 (by decide)]
  exact E
/-- and while it moves but other things of its own -/
theorem w_E_r {S : Nat} {M M' : gM} {σ σ' : Nat → Int32} {sz : Nat} {P I : Nat → Nat → Int32} {rc : Nat} {R : Nat → List (Nat × Int32) × List (Nat × Nat × Nat)} (E : w_E M σ sz P I rc R) (f : y_Fr S M M') (h : Nat.land S (2 ^ 2 + 2 ^ 25 + 2 ^ 42 + 2 ^ 44 + 2 ^ 45 + 2 ^ 52 + 2 ^ 58) = 0) (hs : M'.2.1 185 = σ') : w_E M' σ' sz P I rc R := by
  obtain ⟨⟨⟨a1, a2⟩, a3⟩, a4, a5, a6⟩ := E
  have e187 := fun q => y_fa (i := 187) f (by decide) (y_dis h (by decide)) q
  have e193 := fun q => y_fa (i := 193) f (by decide) (y_dis h (by decide)) q
  refine ⟨⟨⟨hs, by rw [y_fk (i := 175) (k := 25) f (y_dis h (by decide))]; exact a2⟩, fun i hi j hj => (e187 _).trans (a3 i hi j hj)⟩, fun k hk j hj => (e193 _).trans (a4 k hk j hj), by rw [y_fk (i := 175) (k := 2) f (y_dis h (by decide))]; exact a5, fun t ht => ?_⟩
  have h3 := a6 t ht
  have e1 : M'.2.1 179 = M.2.1 179 := funext (fun q => y_fa (i := 179) f (by decide) (y_dis h (by decide)) q)
  have e2 : M'.2.1 180 = M.2.1 180 := funext (fun q => y_fa (i := 180) f (by decide) (y_dis h (by decide)) q)
  have e3 : y_sn M' t = y_sn M t := y_snf f (y_dis h (by decide)) t
  unfold r_rl at h3 ⊢
  rw [e1, e2, e3]
  exact h3
theorem w_C_congr {M : gM} {e : Nat} {σ σ' : Nat → Int32} {nx sz : Nat} {P I : Nat → Nat → Int32} {rc : Nat} {R : Nat → List (Nat × Int32) × List (Nat × Nat × Nat)} (C : w_C M e σ nx sz P I rc R) (h : ∀ j, j < 157 → σ' j = σ j) : w_C M e σ' nx sz P I rc R := ⟨⟨⟨C.1.1.1, w_X_congr C.1.1.2 h⟩, C.1.2⟩, C.2⟩
def w_P (M : gM) : Prop := ∃ (e : Nat) (σ : Nat → Int32) (nx sz : Nat) (P I : Nat → Nat → Int32) (rc : Nat) (R : Nat → List (Nat × Int32) × List (Nat × Nat × Nat)), w_C M e σ nx sz P I rc R ∧ w_E M σ sz P I rc R
def lw9 (L : Nat) (M : gM) : Prop := lw8 L M ∧ w_P M
/-- calls of both, one behind the other: with the same answer (42), or not asked for (41) -/
def lw_41 (L : Nat) (M : gM) (o1 : Option (Int32 × gM)) (o2 : gM → Option (Int32 × gM)) : Prop := ∃ w1 w2 M1 M2, (o1 = some (w1, M1) ∧ lw_B L M1 ∧ M1.2.1 0 = M.2.1 0) ∧ o2 M1 = some (w2, M2) ∧ lw9 L M2 ∧ M2.2.1 0 = M.2.1 0
def lw_42 (L : Nat) (M : gM) (o1 : Option (Int32 × gM)) (o2 : gM → Option (Int32 × gM)) : Prop := ∃ w M1 M2, (o1 = some (w, M1) ∧ lw_B L M1 ∧ M1.2.1 0 = M.2.1 0) ∧ o2 M1 = some (w, M2) ∧ lw9 L M2 ∧ M2.2.1 0 = M.2.1 0
theorem lw_421 {L : Nat} {M : gM} {o1 : Option (Int32 × gM)} {o2 : gM → Option (Int32 × gM)} (h : lw_42 L M o1 o2) : lw_41 L M o1 o2 := by
  obtain ⟨w, M1, M2, h⟩ := h
  exact ⟨w, w, M1, M2, h⟩
/-- a call of the class that lw8 knows by its frame; then one of the reference -/
theorem lw8_go {b : Nat → Bool} {S L : Nat} {lo hi : Int} {M M1 : gM} {w1 : Int32} (R : lw8 L M) (z : q_PI b M lo hi (w1, M1)) (h1 : b 12 = true) (h2 : b 100 = true) (h3 : b 101 = true) (h13 : b 13 = true) (h14 : b 14 = true) : lw8 L M1 ∧ M1.2.1 0 = M.2.1 0 ∧ (∀ i, y_cs i → M1.2.1 i = M.2.1 i) := by
  have fx := q_Fx_of (a := 151) z.2.2
  exact ⟨⟨⟨lw_cls R.1.1 z.2.1 z.2.2 h1 h2 h3, g6_of R.1.2 (g6_cC R.1.1.1 z.2.2 (g6_b R.1.1.1 z.2.2 h13) (g6_b R.1.1.1 z.2.2 h14)) (g6_cE fx)⟩, lw8_c R.1.1.1 R.2 z.2.2⟩, lw_s_cls fx, lw_rc fx⟩
theorem lw8_gr {S L : Nat} {lo hi : Int} {M M' : gM} {v : Int32} (R : lw8 L M) (hW : Nat.land S y_wb = 0) (hS : Nat.land S (2 ^ 1 + 2 ^ 2 + 2 ^ 41) = 0) (h6 : Nat.land S (2 ^ 21 + 2 ^ 22 + 2 ^ 59 + 2 ^ 60 + 2 ^ 61) = 0) (z : y_PI S M lo hi (v, M')) : lw8 L M' ∧ M'.2.1 0 = M.2.1 0 :=
  ⟨⟨⟨lw_refW R.1.1 z.2.1 z.2.2 hW hS, g6_of R.1.2 (g6_rC z.2.2) (g6_rE z.2.2 h6)⟩, k_Gr R.2 z.2.2⟩, lw_s_ref z.2.2⟩
-- 7za3.keep
/-! an ACT is kept, of both -/
def s_kp (σ : Nat → Int32) (sz : Nat) (P : Nat → Nat → Int32) : Nat → Nat → Int32 := fun i => if sz = 20 then (if i = 19 then σ else P (i + 1)) else (if i = sz then σ else P i)
def s_sz (sz : Nat) : Nat := if sz = 20 then 20 else sz + 1
theorem k_st20 {u : Nat} (hu : u < 20) : 21 + 5 * u ∈ k_sts := by
  unfold k_sts
  exact List.mem_cons_of_mem _ (List.mem_cons_of_mem _ (List.mem_cons_of_mem _ (List.mem_append_left _ (List.mem_map.mpr ⟨u, List.mem_range.mpr hu, rfl⟩))))
theorem k_st4 {u : Nat} (hu : u < 4) : 152 + 6 * u ∈ k_sts := by
  unfold k_sts
  exact List.mem_cons_of_mem _ (List.mem_cons_of_mem _ (List.mem_cons_of_mem _ (List.mem_append_right _ (List.mem_map.mpr ⟨u, List.mem_range.mpr hu, rfl⟩))))
set_option maxRecDepth 100000 in
theorem k_r20 : ((List.range 20).all (fun u => RC_510 20 u == some (21 + 5 * u)) && (f_K 20 == (24, 20))) = true := by decide +kernel
theorem k_ref20 {M : gM} (G : k_G M) {u : Nat} (hu : u < 20) : M.2.2.2 20 u = some (21 + 5 * u) := by
  have h := k_r20
  simp only [Bool.and_eq_true, beq_iff_eq] at h
  have h1 := List.all_eq_true.mp h.1 u (List.mem_range.mpr hu)
  simp only [beq_iff_eq] at h1
  exact (G.2 20 (by decide) (by decide) (by rw [h.2]; decide) u (by rw [h.2]; rfl)).trans h1
theorem G_r0 {M : gM} (G : k_G M) : M.2.2.2 2 0 = some 131 := k_rf G (by decide)
theorem G_r1 {M : gM} (G : k_G M) : M.2.2.2 2 1 = some 136 := k_rf G (by decide)
theorem G_r2 {M : gM} (G : k_G M) : M.2.2.2 2 2 = some 148 := k_rf G (by decide)
theorem G_r3 {M : gM} (G : k_G M) : M.2.2.2 2 3 = some 3 := k_rf G (by decide)
theorem G_r4 {M : gM} (G : k_G M) : M.2.2.2 2 4 = some 4 := k_rf G (by decide)
theorem G_r5 {M : gM} (G : k_G M) : M.2.2.2 2 5 = some 9 := k_rf G (by decide)
theorem G_r6 {M : gM} (G : k_G M) : M.2.2.2 2 6 = some 14 := k_rf G (by decide)
theorem G_r7 {M : gM} (G : k_G M) : M.2.2.2 2 7 = some 19 := k_rf G (by decide)
theorem G_r8 {M : gM} (G : k_G M) : M.2.2.2 2 8 = some 121 := k_rf G (by decide)
theorem G_r9 {M : gM} (G : k_G M) : M.2.2.2 2 9 = some 122 := k_rf G (by decide)
theorem G_r10 {M : gM} (G : k_G M) : M.2.2.2 2 10 = some 123 := k_rf G (by decide)
theorem G_r19 {M : gM} (G : k_G M) : M.2.2.2 19 0 = some 20 := k_rf G (by decide)
theorem G_r123 {M : gM} (G : k_G M) : M.2.2.2 123 0 = some 124 := k_rf G (by decide)
theorem G_k2 {M : gM} (G : k_G M) : g_k M 2 = (11, 0) := k_kd G (by decide)
theorem G_k4 {M : gM} (G : k_G M) : g_k M 4 = (10, 0) := k_kd G (by decide)
theorem G_k19 {M : gM} (G : k_G M) : g_k M 19 = (4, 0) := k_kd G (by decide)
theorem t_aR {t i n : Nat} {j : Int32} {M : gM} {w : Option Nat} (h : g_k M i = (t, n)) (h0 : 0 ≤ j.toInt) (h1 : j.toInt < (n : Int)) (e : M.2.2.2 i j.toNatClampNeg = w) : aR t M (some i) j = some w := by
  unfold aR
  rw [Option.bind_some, if_pos ⟨by rw [h], by rw [h]; exact gin_of h0 h1⟩, e]
/-- a State copied: it says what that one says -/
theorem C_copyX {M : gM} {s s2 e : Nat} {σ : Nat → Int32} (L : k_LS M s) (X : w_X M s2 e σ) (hd : s + 4 < s2 ∨ s2 + 4 < s) (he : ∀ i, e ≤ i → i ≤ e + 5 → ¬ (s ≤ i ∧ i ≤ s + 4)) : Ok (F_X8_copy (some s) (some s2) M) (fun M' => k_Fs s M M' ∧ w_X M' s e σ) := by
  have nn := s_Vn X.1.1.2.2
  refine Ok_w (C_copy L X.1.1.1.2 hd) (fun M' z => ?_)
  obtain ⟨f, z1, z2, z3⟩ := z
  have LE : k_LE M' e := k_LEm X.1.1.1.1 (fun i => q_k_of f.1.1.1) f.1.2
  have E : k_E M' e σ := k_Em X.1.1.2.1.1 (fun i k h1 h2 _ => by rw [f.2 i (by have := he i h1 h2; omega)])
  refine ⟨f, ⟨⟨⟨LE, k_Fs_LS L f⟩, ⟨E, k_S_copy X.1.1.2.1.2 (by omega) z1 z2 z3⟩, X.1.1.2.2⟩, X.1.2⟩, ?_, X.2.2⟩
  rw [f.2 e (by have := he e (by omega) (by omega); omega)]
  exact X.2.1
theorem n_mod {x : Int32} {k : Nat} (h : x.toInt = (k : Int)) : (x - x / (20 : Int32) * (20 : Int32)).toInt = ((k % 20 : Nat) : Int) := by
  rw [i_mod (n := 20) rfl (by decide) (by omega)]
  omega
theorem C_keep {M : gM} {e nx sz : Nat} {σ : Nat → Int32} {P : Nat → Nat → Int32} (G : k_G M) (X : w_X M 9 e σ) (C : w_Cp M e nx sz P) (hl : 197 ≤ M.1.length) : Ok (F_X4_keep (some 19) (some 9) M) (fun M' => ((M'.1 = M.1 ∧ M'.2.2.2 = M.2.2.2) ∧ w_F (fun i => i = 19 ∨ (21 ≤ i ∧ i ≤ 120)) M M' ∧ M'.2.2.1 = M.2.2.1) ∧ w_Cp M' e ((nx + 1) % 20) (s_sz sz) (s_kp σ sz P)) := by
  obtain ⟨⟨⟨c1, c2⟩, cn, cs⟩, cP⟩ := C
  have wh := X.1.2
  have k19 : g_k M 19 = (4, 0) := k_kd G (by decide)
  have k20 : g_k M 20 = (24, 20) := k_kd G (by decide)
  have L := k_LS_of G (k_st20 cn)
  delta F_X4_keep F_X4_keep_b0
  refine x_gR k19 (G_r19 G) (x_gI k19 rfl ?_)
  rw [t_aR (w := some (21 + 5 * nx)) k20 (by omega) (by omega) (by rw [i_cl c1]; exact k_ref20 G cn), Option.bind_some]
  refine x_gO L.1.1 ?_
  refine Ok_b (C_copyX L X (by omega) (fun i h1 h2 => by unfold w_h at wh; omega)) (fun M5 z => ?_)
  obtain ⟨f5, X5⟩ := z
  have hk5 : ∀ i, g_k M5 i = g_k M i := fun i => q_k_of f5.1.1.1
  have e19 : M5.2.1 19 = M.2.1 19 := f5.2 19 (by omega)
  have k5 := (hk5 19).trans k19
  have a1 := i_addc (x := M.2.1 19 1) (c := (1 : Int32)) (n := 1) rfl (by omega) (by omega)
  have m1 := n_mod (x := M.2.1 19 1 + (1 : Int32)) (k := nx + 1) (by omega)
  have a2 := i_addc (x := M.2.1 19 2) (c := (1 : Int32)) (n := 1) rfl (by omega) (by omega)
  refine x_gI k5 (congrFun e19 1) (x_pI k5 (x_gI k5 ((mI_ne (Or.inr (by decide))).trans (congrFun e19 2)) (x_pI k5 (Ok_s ?_))))
  have hM : ∃ Mx, Mx = mI (mI M5 19 1 (M.2.1 19 1 + (1 : Int32) - (M.2.1 19 1 + (1 : Int32)) / (20 : Int32) * (20 : Int32))) 19 2 (if M.2.1 19 2 + (1 : Int32) < (20 : Int32) then M.2.1 19 2 + (1 : Int32) else (20 : Int32)) := ⟨_, rfl⟩
  obtain ⟨Mx, eM⟩ := hM
  rw [← eM]
  have hkx : Mx.1 = M5.1 := by rw [eM]; rfl
  have hrx : Mx.2.2.2 = M5.2.2.2 := by rw [eM]; rfl
  have hlx : Mx.2.2.1 = M5.2.2.1 := by rw [eM]; rfl
  have hix : ∀ i, i ≠ 19 → Mx.2.1 i = M5.2.1 i := fun i hi => by rw [eM]; exact funext (fun q => (mI_ne (Or.inl hi)).trans (mI_ne (Or.inl hi)))
  have e1 : (Mx.2.1 19 1).toInt = (((nx + 1) % 20 : Nat) : Int) := by rw [eM, mI_ne (Or.inr (by decide)), y_mI1]; exact m1
  have z20 : (20 : Int32).toInt = 20 := rfl
  have e2 : (Mx.2.1 19 2).toInt = (s_sz sz : Int) := by
    rw [eM, y_mI1]
    unfold s_sz
    by_cases c : M.2.1 19 2 + (1 : Int32) < (20 : Int32)
    · have := i_lt c
      rw [if_pos c, if_neg (by omega)]
      omega
    · have := i_nlt c
      rw [if_neg c]
      by_cases c2 : sz = 20
      · rw [if_pos c2]
        rfl
      · rw [if_neg c2]
        omega
  have F5 : w_F (fun i => i = 19 ∨ (21 ≤ i ∧ i ≤ 120)) M M5 := w_F_w (w_F_Fs f5) (fun i h => by omega)
  have Fx : w_F (fun i => i = 19) M5 Mx := w_F_of hkx hrx hix
  have F : w_F (fun i => i = 19 ∨ (21 ≤ i ∧ i ≤ 120)) M Mx := w_F_t F5 (w_F_w Fx (fun i h => Or.inl h))
  have ehe : ∀ i, e ≤ i → i ≤ e + 5 → ¬ (i = 19 ∨ (21 ≤ i ∧ i ≤ 120)) := fun i h1 h2 => by unfold w_h at wh; omega
  have old : ∀ i, i < sz → (nx + 20 - sz + i) % 20 ≠ nx → w_X Mx (21 + 5 * ((nx + 20 - sz + i) % 20)) e (P i) := by
    intro i hi hne
    have X1 := w_X_F (cP i hi) (w_F_Fs f5) (fun j a b z => by omega) (fun j a b z => by unfold w_h at wh; omega)
    exact w_X_F X1 Fx (fun j a b z => by omega) (fun j a b z => by unfold w_h at wh; omega)
  have new : w_X Mx (21 + 5 * nx) e σ := w_X_F X5 Fx (fun j a b z => by omega) (fun j a b z => by unfold w_h at wh; omega)
  refine ⟨⟨⟨hkx.trans f5.1.1.1, hrx.trans f5.1.2⟩, F, hlx.trans f5.1.1.2⟩, ⟨⟨e1, e2⟩, by omega, by unfold s_sz; split <;> omega⟩, fun i hi => ?_⟩
  unfold s_sz at hi ⊢
  unfold s_kp
  by_cases c : sz = 20
  · rw [if_pos c] at hi ⊢
    rw [if_pos c]
    by_cases c9 : i = 19
    · rw [if_pos c9, show ((nx + 1) % 20 + 20 - 20 + i) % 20 = nx by omega]
      exact new
    · rw [if_neg c9]
      have := old (i + 1) (by omega) (by omega)
      rw [show (nx + 20 - sz + (i + 1)) % 20 = ((nx + 1) % 20 + 20 - 20 + i) % 20 by omega] at this
      exact this
  · rw [if_neg c] at hi ⊢
    rw [if_neg c]
    by_cases c9 : i = sz
    · rw [if_pos c9, show ((nx + 1) % 20 + 20 - (sz + 1) + i) % 20 = nx by omega]
      exact new
    · rw [if_neg c9]
      have := old i (by omega) (by omega)
      rw [show (nx + 20 - sz + i) % 20 = ((nx + 1) % 20 + 20 - (sz + 1) + i) % 20 by omega] at this
      exact this
/-! the reference: 157 cells copied -/
theorem e_cp {di si db sb S : Nat} {α : Type} {G : Nat → Int32 → gM → Option α} {E : gM → Option α} {M0 : gM} {Q : α → Prop} (hd : y_cs di ∧ di ≠ 175) (hsd : si ≠ di) (hS : S.testBit (y_c di 0) = true) (hSc : ∀ q, y_c di q = y_c di 0)
    (hr : ∀ (M : gM) (k : Nat), y_HT M → k < 157 → y_rg (y_tI di (db + k)) (M.2.1 si (sb + k)))
    (hG : ∀ (n : Nat) (l : Int32) (k : Nat) (M : gM), l.toInt = (k : Int) → k < 157 → y_HT M → (∀ i, i ≠ di → M.2.1 i = M0.2.1 i) → G (n + 1) l M = G n (l + 1) (mI M di (db + k) (M.2.1 si (sb + k))))
    (hE : ∀ (n : Nat) (l : Int32) (M : gM), l.toInt = 157 → G (n + 1) l M = E M)
    (g : ∀ M, y_HT M → y_Fr S M0 M → (∀ i, i ≠ di → M.2.1 i = M0.2.1 i) → M.2.2.1 = M0.2.2.1 → (∀ k, k < 157 → M.2.1 di (db + k) = M0.2.1 si (sb + k)) → (∀ q, ¬ (db ≤ q ∧ q < db + 157) → M.2.1 di q = M0.2.1 di q) → Ok (E M) Q) :
    ∀ (n k : Nat) {l : Int32} {M : gM}, y_HT M → y_Fr S M0 M → (∀ i, i ≠ di → M.2.1 i = M0.2.1 i) → M.2.2.1 = M0.2.2.1 → (∀ j, j < k → M.2.1 di (db + j) = M0.2.1 si (sb + j)) → (∀ q, ¬ (db ≤ q ∧ q < db + k) → M.2.1 di q = M0.2.1 di q) → l.toInt = (k : Int) → k ≤ 157 → 157 - k < n → Ok (G n l M) Q := by
  intro n
  induction n with
  | zero => intro k l M H f o ol c r hl hk hn; omega
  | succ n ih =>
    intro k l M H f o ol c r hl hk hn
    by_cases e : k = 157
    · subst e
      rw [hE n l M hl]
      exact g M H f o ol c r
    · rw [hG n l k M hl (by omega) H o]
      obtain ⟨H1, f1⟩ := y_set (M' := mI M di (db + k) (M.2.1 si (sb + k))) (S := S) H (i := di) (k := db + k) hd.1 rfl rfl y_mI1 (fun j a hj => y_mI2 hj) rfl (hr M k H (by omega)) (by rw [hSc]; exact hS)
      refine ih (k + 1) H1 (y_tr f f1) (fun i hi => ?_) ol (fun j hj => ?_) (fun q hq => ?_) (i_nx hl (by omega)) (by omega) (by omega)
      · exact (funext (fun q => mI_ne (Or.inl hi))).trans (o i hi)
      · by_cases ej : j = k
        · subst ej
          rw [y_mI1, o si hsd]
        · rw [mI_ne (Or.inr (by omega))]
          exact c j (by omega)
      · rw [mI_ne (Or.inr (by omega))]
        exact r q (by omega)
theorem y_c185 {i : Nat} (h : 176 ≤ i ∧ i ≤ 196) (q : Nat) : y_c i q = i - 135 := by
  unfold y_c
  rw [if_neg (by omega), if_pos h]
/-- all but the last go on by one -/
theorem E_shift {M0 : gM} {k52 : Option Nat → gM → Option gM} {Q : gM → Prop} (hk : k52 = fun l0 M => F_X12_keepsAct_b52 l0 M) (h20 : M0.2.1 175 25 = 20)
    (g : ∀ M, y_HT M → y_Fr (2 ^ 25 + 2 ^ 52) M0 M → (∀ i, i ≠ 187 → i ≠ 175 → M.2.1 i = M0.2.1 i) → M.2.1 175 25 = 19 → (∀ j, j < 2983 → M.2.1 187 j = M0.2.1 187 (j + 157)) → Ok (k52 (some 175) M) Q) :
    ∀ (n k : Nat) {l : Int32} {M : gM}, y_HT M → y_Fr (2 ^ 25 + 2 ^ 52) M0 M → (∀ i, i ≠ 187 → M.2.1 i = M0.2.1 i) → (∀ j, j + 157 < k → M.2.1 187 j = M0.2.1 187 (j + 157)) → (∀ j, k ≤ j + 157 → M.2.1 187 j = M0.2.1 187 j) → l.toInt = (k : Int) → 157 ≤ k → k ≤ 3140 → 3140 - k < n → Ok (F_X12_keepsAct_L13 n (some 175) l M) Q := by
  intro n
  induction n with
  | zero => intro k l M H f o c r hl hk1 hk2 hn; omega
  | succ n ih =>
    intro k l M H f o c r hl hk1 hk2 hn
    have z : (3140 : Int32).toInt = 3140 := rfl
    have e25 : M.2.1 175 25 = 20 := (congrFun (o 175 (by decide)) 25).trans h20
    show Ok (F_X12_keepsAct_b13 (F_X12_keepsAct_L13 n) (some 175) l M) Q
    delta F_X12_keepsAct_b13
    by_cases e : k = 3140
    · subst e
      rw [if_pos (Int32.le_iff_toInt_le.mpr (by omega)), e_gI H, Option.bind_some, e_pI H, Option.bind_some, e25]
      obtain ⟨H1, f1⟩ := y_set (M' := mI M 175 25 ((20 : Int32) - (1 : Int32))) (S := 2 ^ 25 + 2 ^ 52) H (i := 175) (k := 25) (by decide) rfl rfl y_mI1 (fun j a hj => y_mI2 hj) rfl (y_in (lo := 0) (hi := 20) rfl (by decide)) (by decide)
      have := g _ H1 (y_tr f f1) (fun i h1 h2 => (funext (fun q => mI_ne (Or.inl h2))).trans (o i h1)) y_mI1 (fun j hj => (mI_ne (Or.inl (by decide))).trans (c j (by omega)))
      rw [hk] at this
      exact this
    · have s1 := i_subc (x := l) (c := (157 : Int32)) (n := 157) rfl (by omega) (by omega)
      have s2 : (l - (157 : Int32)).toNatClampNeg = k - 157 := i_cl (by omega)
      rw [if_neg (fun z => by have := i_le z; omega), e_gR H (w := 187) rfl (by decide), Option.bind_some, Option.bind_some, e_aI H (t := 20) (i := 187) (n := 3140) rfl (by decide) (by omega) (by omega), Option.bind_some, i_cl hl, e_sI H (i := 187) (n := 3140) rfl (by omega) (by omega), Option.bind_some, s2]
      have rg : y_rg (y_tI 187 (k - 157)) (M.2.1 187 k) := by
        have h := H.2.1 187 (by decide) k
        have e : y_tI 187 (k - 157) = y_tI 187 k := by
          show y_tS ((k - 157) % 157) = y_tS (k % 157)
          rw [show (k - 157) % 157 = k % 157 by omega]
        rw [e]
        exact h
      obtain ⟨H1, f1⟩ := y_set (M' := mI M 187 (k - 157) (M.2.1 187 k)) (S := 2 ^ 25 + 2 ^ 52) H (i := 187) (k := k - 157) (by decide) rfl rfl y_mI1 (fun j a hj => y_mI2 hj) rfl rg (by rw [y_c185 (by decide)]; decide)
      have inc : (l + 1).toInt = ((k + 1 : Nat) : Int) := by rw [i_addc (n := 1) rfl (by omega) (by omega)]; omega
      refine ih (k + 1) H1 (y_tr f f1) (fun i hi => (funext (fun q => mI_ne (Or.inl hi))).trans (o i hi)) (fun j hj => ?_) (fun j hj => ?_) inc (by omega) (by omega) (by omega)
      · by_cases ej : j = k - 157
        · rw [ej, y_mI1, r k (by omega), show k - 157 + 157 = k by omega]
        · rw [mI_ne (Or.inr ej)]
          exact c j (by omega)
      · rw [mI_ne (Or.inr (by omega))]
        exact r j (by omega)
theorem y_t187 (u k : Nat) (hk : k < 157) : y_tI 187 (157 * u + k) = y_tI 185 k := by
  show y_tS ((157 * u + k) % 157) = y_tS k
  rw [show (157 * u + k) % 157 = k by omega]
theorem y_t193 (u k : Nat) (hk : k < 157) : y_tI 193 (157 * u + k) = y_tI 185 k := by
  show y_tS ((157 * u + k) % 157) = y_tS k
  rw [show (157 * u + k) % 157 = k by omega]
theorem E_keep52 {M : gM} {sz : Nat} (H : y_HT M) (hz : (M.2.1 175 25).toInt = (sz : Int)) (hs : sz < 20) : Ok (F_X12_keepsAct_b52 (some 175) M) (fun M' => (y_HT M' ∧ y_Fr (2 ^ 25 + 2 ^ 52) M M' ∧ M'.2.2.1 = M.2.2.1) ∧ (M'.2.1 175 25).toInt = ((sz + 1 : Nat) : Int) ∧ (∀ j, j < 157 → M'.2.1 187 (157 * sz + j) = M.2.1 185 j) ∧ ∀ q, ¬ (157 * sz ≤ q ∧ q < 157 * sz + 157) → M'.2.1 187 q = M.2.1 187 q) := by
  have z157 : (157 : Int32).toInt = 157 := rfl
  delta F_X12_keepsAct_b52
  refine e_cp (di := 187) (si := 185) (db := 157 * sz) (sb := 0) (S := 2 ^ 25 + 2 ^ 52) (G := fun n l M => F_X12_keepsAct_L54 n (some 175) l M) (E := fun M => (gI 12 M (some 175) 25).bind fun v1 => (pI 12 M (some 175) 25 (v1 + (1 : Int32))).bind fun M2 => some M2) (M0 := M) ⟨by decide, by decide⟩ (by decide) (by decide) (fun q => by rw [y_c185 (by decide), y_c185 (by decide)]) (fun M1 k H1 hk => ?_) (fun n l k M1 hl hk H1 o => ?_) (fun n l M1 hl => ?_) (fun M1 H1 f1 o1 ol c1 r1 => ?_) g_fuel 0 (l := 0) H (y_rf0 _ _) (fun _ _ => rfl) rfl (fun j hj => absurd hj (Nat.not_lt_zero _)) (fun _ _ => rfl) rfl (Nat.zero_le _) (n_fu (by omega))
  · rw [y_t187 sz k hk, Nat.zero_add]
    exact H1.2.1 185 (by decide) k
  · show F_X12_keepsAct_b54 (F_X12_keepsAct_L54 n) (some 175) l M1 = _
    delta F_X12_keepsAct_b54
    have hz1 : (M1.2.1 175 25).toInt = (sz : Int) := by rw [o 175 (by decide)]; exact hz
    have a1 := i_mulL (c := (157 : Int32)) (x := M1.2.1 175 25) (n := 157) rfl (by omega) (by omega)
    have a2 := i_add (x := (157 : Int32) * M1.2.1 175 25) (y := l) (by omega) (by omega)
    have a3 : ((157 : Int32) * M1.2.1 175 25 + l).toNatClampNeg = 157 * sz + k := i_cl (by omega)
    rw [if_neg (fun z => by have := i_le z; omega), e_gR H1 (w := 187) rfl (by decide), Option.bind_some, e_gI H1, Option.bind_some, e_gR H1 (w := 185) rfl (by decide), Option.bind_some, e_aI H1 (t := 20) (i := 185) (n := 157) rfl (by decide) (by omega) (by omega), Option.bind_some, i_cl hl, e_sI H1 (i := 187) (n := 3140) rfl (by omega) (by omega), Option.bind_some, a3, Nat.zero_add]
  · show F_X12_keepsAct_b54 (F_X12_keepsAct_L54 n) (some 175) l M1 = _
    delta F_X12_keepsAct_b54
    rw [if_pos (Int32.le_iff_toInt_le.mpr (by omega))]
  · have hz1 : (M1.2.1 175 25).toInt = (sz : Int) := by rw [o1 175 (by decide)]; exact hz
    rw [e_gI H1, Option.bind_some, e_pI H1, Option.bind_some, n_inc hz1 (by omega)]
    have on : (Int32.ofNat (sz + 1)).toInt = ((sz + 1 : Nat) : Int) := i_ofNat (by omega)
    obtain ⟨H2, f2⟩ := y_set (M' := mI M1 175 25 (Int32.ofNat (sz + 1))) (S := 2 ^ 25 + 2 ^ 52) H1 (i := 175) (k := 25) (by decide) rfl rfl y_mI1 (fun j a hj => y_mI2 hj) rfl (y_in (lo := 0) (hi := 20) rfl (by omega)) (by decide)
    refine Ok_s ⟨⟨H2, y_tr f1 f2, ol⟩, by rw [y_mI1]; exact on, fun j hj => ?_, fun q hq => ?_⟩
    · rw [mI_ne (Or.inl (by decide)), c1 j hj, Nat.zero_add]
    · rw [mI_ne (Or.inl (by decide)), r1 q hq]
theorem E_keep {M : gM} {σ : Nat → Int32} {sz : Nat} {P : Nat → Nat → Int32} (H : y_HT M) (hs : M.2.1 185 = σ) (hz : (M.2.1 175 25).toInt = (sz : Int)) (hP : ∀ i, i < sz → ∀ j, j < 157 → M.2.1 187 (157 * i + j) = P i j) : Ok (F_X12_keepsAct (some 175) M) (fun M' => (y_HT M' ∧ y_Fr (2 ^ 25 + 2 ^ 52) M M') ∧ (M'.2.1 175 25).toInt = (s_sz sz : Int) ∧ ∀ i, i < s_sz sz → ∀ j, j < 157 → M'.2.1 187 (157 * i + j) = s_kp σ sz P i j) := by
  have h20 : sz ≤ 20 := by
    have := (H.2.1 175 (by decide) 25).2
    have e : (y_tI 175 25).2 = 20 := rfl
    rw [e] at this
    omega
  delta F_X12_keepsAct F_X12_keepsAct_b0
  rw [e_gI H, Option.bind_some]
  have z20 : (20 : Int32).toInt = 20 := rfl
  unfold s_sz s_kp
  by_cases c : sz = 20
  · have e : M.2.1 175 25 = 20 := Int32.toInt_inj.mp (by omega)
    rw [if_pos e, if_pos c]
    simp only [if_pos c]
    refine E_shift (M0 := M) (k52 := fun l0 M => F_X12_keepsAct_b52 l0 M) rfl e (fun M1 H1 f1 o1 e1 c1 => ?_) g_fuel 157 (l := (157 : Int32)) H (y_rf0 _ _) (fun _ _ => rfl) (fun j hj => by omega) (fun _ _ => rfl) rfl (by decide) (by decide) (by have : g_fuel = 1000000000 := rfl; omega)
    refine Ok_w (E_keep52 (sz := 19) H1 (by rw [e1]; rfl) (by decide)) (fun M2 z => ?_)
    obtain ⟨⟨H2, f2, _⟩, z1, z2, z3⟩ := z
    refine ⟨⟨H2, y_tr f1 f2⟩, z1, fun i hi j hj => ?_⟩
    by_cases c9 : i = 19
    · subst c9
      rw [if_pos rfl, z2 j hj, o1 185 (by decide) (by decide), hs]
    · rw [if_neg c9, z3 _ (by omega), c1 _ (by omega), show 157 * i + j + 157 = 157 * (i + 1) + j by omega]
      exact hP (i + 1) (by omega) j hj
  · rw [if_neg (fun e => by rw [e] at hz; omega), if_neg c]
    simp only [if_neg c]
    refine Ok_w (E_keep52 (sz := sz) H hz (by omega)) (fun M2 z => ?_)
    obtain ⟨⟨H2, f2, _⟩, z1, z2, z3⟩ := z
    refine ⟨⟨H2, f2⟩, z1, fun i hi j hj => ?_⟩
    by_cases c9 : i = sz
    · subst c9
      rw [if_pos rfl, z2 j hj, hs]
    · rw [if_neg c9, z3 _ (by omega)]
      exact hP i (by omega) j hj
-- 7za4.year
/-! guards; a call of both, as one; YEAR -/
def s_iH (σ : Nat → Int32) (l : Int32) : Bool := decide (0 ≤ l.toInt ∧ l.toInt < (σ 2).toInt)
def s_iT (σ : Nat → Int32) (l : Int32) : Bool := decide (0 ≤ l.toInt ∧ l.toInt < (σ 1).toInt)
theorem s_iH_n {σ : Nat → Int32} {l : Int32} (V : s_V σ) (h : s_iH σ l = true) : ∃ n : Nat, l.toInt = (n : Int) ∧ n < hs_m σ ∧ l.toNatClampNeg = n ∧ l = Int32.ofNat n := by
  have nn := s_Vn V
  have h := of_decide_eq_true h
  refine ⟨l.toInt.toNat, by omega, by omega, i_cl (by omega), i_of (by omega) (by omega)⟩
theorem s_iT_n {σ : Nat → Int32} {l : Int32} (V : s_V σ) (h : s_iT σ l = true) : ∃ n : Nat, l.toInt = (n : Int) ∧ n < hs_n σ ∧ l.toNatClampNeg = n ∧ l = Int32.ofNat n := by
  have nn := s_Vn V
  have h := of_decide_eq_true h
  refine ⟨l.toInt.toNat, by omega, by omega, i_cl (by omega), i_of (by omega) (by omega)⟩
theorem C_isHeirX {M : gM} {s e : Nat} {σ : Nat → Int32} {l : Int32} (k2 : g_k M 2 = (11, 0)) (r : M.2.2.2 2 11 = some e) (X : k_X M s e σ) : F_X11_isHeir (some 2) l M = some (if s_iH σ l = true then 1 else 0) := by
  obtain ⟨⟨ke, ⟨e6, e7⟩, _⟩, _⟩ := k_XE X
  have z0 : (0 : Int32).toInt = 0 := rfl
  delta F_X11_isHeir F_X11_isHeir_b0 F_X11_isHeir_b19
  unfold s_iH
  by_cases c : l < 0
  · have := i_lt c
    rw [if_pos c, if_neg (by simp; omega)]
  · have := i_nlt c
    rw [if_neg c, t_gR k2 r, Option.bind_some, t_gI ke, Option.bind_some, e7]
    by_cases d : σ 2 ≤ l
    · have := i_le d
      rw [if_pos d, if_neg (by simp; omega)]
    · have := i_nle d
      rw [if_neg d, if_pos (by simp; omega)]
theorem C_isThingX {M : gM} {s e : Nat} {σ : Nat → Int32} {l : Int32} (k2 : g_k M 2 = (11, 0)) (r : M.2.2.2 2 11 = some e) (X : k_X M s e σ) : F_X11_isThing (some 2) l M = some (if s_iT σ l = true then 1 else 0) := by
  obtain ⟨⟨ke, ⟨e6, e7⟩, _⟩, _⟩ := k_XE X
  have z0 : (0 : Int32).toInt = 0 := rfl
  delta F_X11_isThing F_X11_isThing_b0 F_X11_isThing_b19
  unfold s_iT
  by_cases c : l < 0
  · have := i_lt c
    rw [if_pos c, if_neg (by simp; omega)]
  · have := i_nlt c
    rw [if_neg c, t_gR k2 r, Option.bind_some, t_gI ke, Option.bind_some, e6]
    by_cases d : σ 1 ≤ l
    · have := i_le d
      rw [if_pos d, if_neg (by simp; omega)]
    · have := i_nle d
      rw [if_neg d, if_pos (by simp; omega)]
theorem E_isHeirX {M : gM} {σ : Nat → Int32} {l : Int32} (X : e_V M σ) : F_X12_isHeir (some 175) l M = some (if s_iH σ l = true then 1 else 0) := by
  have z0 : (0 : Int32).toInt = 0 := rfl
  delta F_X12_isHeir F_X12_isHeir_b0 F_X12_isHeir_b18
  unfold s_iH
  by_cases c : l < 0
  · have := i_lt c
    rw [if_pos c, if_neg (by simp; omega)]
  · have := i_nlt c
    rw [if_neg c, e_sd X (k := 2) rfl (by decide)]
    by_cases d : σ 2 ≤ l
    · have := i_le d
      rw [if_pos d, if_neg (by simp; omega)]
    · have := i_nle d
      rw [if_neg d, if_pos (by simp; omega)]
theorem E_isThingX {M : gM} {σ : Nat → Int32} {l : Int32} (X : e_V M σ) : F_X12_isThing (some 175) l M = some (if s_iT σ l = true then 1 else 0) := by
  have z0 : (0 : Int32).toInt = 0 := rfl
  delta F_X12_isThing F_X12_isThing_b0 F_X12_isThing_b18
  unfold s_iT
  by_cases c : l < 0
  · have := i_lt c
    rw [if_pos c, if_neg (by simp; omega)]
  · have := i_nlt c
    rw [if_neg c, e_sd X (k := 1) rfl (by decide)]
    by_cases d : σ 1 ≤ l
    · have := i_le d
      rw [if_pos d, if_neg (by simp; omega)]
    · have := i_nle d
      rw [if_neg d, if_pos (by simp; omega)]
theorem E_isHouseX {M : gM} {σ : Nat → Int32} (X : e_V M σ) : F_X12_isHouse (some 175) M = some (if 0 < (σ 0).toInt then 1 else 0) := by
  have z0 : (0 : Int32).toInt = 0 := rfl
  delta F_X12_isHouse F_X12_isHouse_b0
  rw [e_sd X (k := 0) rfl (by decide)]
  by_cases d : σ 0 ≤ 0
  · have := i_le d
    rw [if_pos d, if_neg (by omega)]
  · have := i_nle d
    rw [if_neg d, if_pos (by omega)]
/-- what is known, guarded -/
def s_iK (σ : Nat → Int32) (l1 l2 : Int32) : Bool := (s_iH σ l1 && s_iT σ l2) && s_kn σ l1.toNatClampNeg l2.toNatClampNeg
theorem C_isKnownX {M : gM} {e : Nat} {σ : Nat → Int32} {l1 l2 : Int32} (k2 : g_k M 2 = (11, 0)) (r : M.2.2.2 2 11 = some e) (r5 : M.2.2.2 2 5 = some 9) (X : k_X M 9 e σ) : F_X11_isKnown (some 2) l1 l2 M = some (if s_iK σ l1 l2 = true then 1 else 0) := by
  obtain ⟨_, ⟨⟨ks, k1, k2'⟩, _⟩, ⟨r0, r1⟩, _⟩ := k_XE X
  have nn := s_Vn X.2.2
  delta F_X11_isKnown F_X11_isKnown_b0 F_X11_isKnown_b37
  unfold s_iK
  rw [t_gO k2, Option.bind_some, C_isHeirX k2 r X, Option.bind_some]
  by_cases h : s_iH σ l1 = true
  · rw [if_pos h, if_neg (by decide), C_isThingX k2 r X, Option.bind_some, h, Bool.true_and]
    by_cases t : s_iT σ l2 = true
    · obtain ⟨a, a1, a2, a3, _⟩ := s_iH_n X.2.2 h
      obtain ⟨b, b1, b2, b3, _⟩ := s_iT_n X.2.2 t
      have ix := k_ix a1 b1 (by omega) (by omega)
      rw [if_pos t, if_neg (by decide), t_gR k2 r5, Option.bind_some, t_gR ks r1, Option.bind_some, t_aI k2' (by omega) (by omega), Option.bind_some, i_cl ix, (k_Xst X a2 (by omega)).1, t, Bool.true_and, a3, b3]
      have kp := (k_Xpos X a2 (t := b) (by omega)).1
      by_cases k : s_kn σ a b = true
      · rw [if_neg (fun z => by rw [kp.mp z] at k; cases k), if_pos k]
      · rw [if_pos (kp.mpr (b_ff k)), if_neg k]
    · rw [if_neg t, if_pos rfl, b_ff t, Bool.false_and, if_neg (by decide)]
  · rw [if_neg h, if_pos rfl, b_ff h, Bool.false_and, Bool.false_and, if_neg (by decide)]
theorem k_G_eq {M M' : gM} (G : k_G M) (h1 : M'.1 = M.1) (h2 : M'.2.2.2 = M.2.2.2) : k_G M' := ⟨fun i h0 h => (q_k_of h1).trans (G.1 i h0 h), fun i h0 h h3 k hk => by rw [h2]; exact G.2 i h0 h h3 k hk⟩
/-- the RULE IN FORCE -/
def s_ru (R : Nat → List (Nat × Int32) × List (Nat × Nat × Nat)) (f : Int32) : s_Ru := if f.toInt < 0 then none else some (R f.toNatClampNeg)
theorem k_Z_G {M : gM} (G : k_G M) : k_Z M := ⟨⟨⟨k_kd G (by decide), k_kd G (by decide)⟩, k_kd G (by decide)⟩, k_rf G (by decide), k_rf G (by decide)⟩
theorem k_Y_G {M : gM} (G : k_G M) : k_Y M := ⟨⟨⟨k_kd G (by decide), k_kd G (by decide)⟩, k_kd G (by decide)⟩, k_rf G (by decide), k_rf G (by decide)⟩
theorem C_inForce {M : gM} {rc : Nat} {R : Nat → List (Nat × Int32) × List (Nat × Nat × Nat)} (G : k_G M) (C : w_Cr M rc R) (h6 : rc ≤ 6) (hf : (M.2.1 2 13).toInt < (rc : Int)) : Ok (F_X11_ruleInForce (some 2) M) (fun rl => c_J (s_ru R (M.2.1 2 13)) rl M) := by
  have k2 : g_k M 2 = (11, 0) := k_kd G (by decide)
  have k3 : g_k M 3 = (25, 6) := k_kd G (by decide)
  have z0 : (0 : Int32).toInt = 0 := rfl
  delta F_X11_ruleInForce F_X11_ruleInForce_b0 F_X11_ruleInForce_b30
  rw [t_gI k2, Option.bind_some]
  unfold s_ru
  by_cases c : M.2.1 2 13 < 0
  · have := i_lt c
    rw [if_pos c, if_pos (by omega)]
    exact Ok_s ⟨k_Z_G G, trivial⟩
  · have := i_nlt c
    obtain ⟨t, ht⟩ : ∃ t : Nat, (M.2.1 2 13).toInt = (t : Int) := ⟨(M.2.1 2 13).toInt.toNat, by omega⟩
    obtain ⟨j, js, jm, e3, a, K⟩ := C.2 t (by omega)
    have c1 := C.1
    rw [if_neg c, Option.bind_some, t_gI k2, Option.bind_some, if_neg (fun z => by have := i_le z; omega), t_gR k2 (G_r3 G), Option.bind_some, Option.bind_some, t_aR (w := some j) k3 (by omega) (by omega) (by rw [i_cl ht]; exact e3), Option.bind_some, if_neg (by omega), i_cl ht]
    exact Ok_s ⟨k_Z_G G, js, jm, a, K⟩
theorem E_inForce {M : gM} {σ : Nat → Int32} {sz : Nat} {P I : Nat → Nat → Int32} {rc : Nat} {R : Nat → List (Nat × Int32) × List (Nat × Nat × Nat)} (E : w_E M σ sz P I rc R) (h6 : rc ≤ 6) (hf : (M.2.1 175 21).toInt < (rc : Int)) : e_I (s_ru R (M.2.1 175 21)) M := by
  unfold s_ru
  by_cases c : (M.2.1 175 21).toInt < 0
  · rw [if_pos c]
    exact c
  · obtain ⟨t, ht⟩ : ∃ t : Nat, (M.2.1 175 21).toInt = (t : Int) := ⟨(M.2.1 175 21).toInt.toNat, by omega⟩
    rw [if_neg c, i_cl ht]
    exact ⟨t, by omega, ht, E.2.2.2 t (by omega)⟩
/-- both, side by side, when each does what the cells say -/
theorem lw9_act {L S : Nat} {lo hi lo2 hi2 : Int} {M : gM} {o1 : Option (Int32 × gM)} {o2 : gM → Option (Int32 × gM)} (R : lw9 L M) (z1 : Ok o1 (q_PI q_ba M lo hi)) (z2 : ∀ M1, y_HT M1 → y_W M1 → Ok (o2 M1) (y_PI S M1 lo2 hi2)) (hW : Nat.land S y_wb = 0) (hS : Nat.land S (2 ^ 1 + 2 ^ 2 + 2 ^ 41) = 0) (h6 : Nat.land S (2 ^ 21 + 2 ^ 22 + 2 ^ 59 + 2 ^ 60 + 2 ^ 61) = 0)
    (c : ∀ (e : Nat) (σ : Nat → Int32) (nx sz : Nat) (P I : Nat → Nat → Int32) (rc : Nat) (Rr : Nat → List (Nat × Int32) × List (Nat × Nat × Nat)), w_C M e σ nx sz P I rc Rr → rc ≤ 6 → (M.2.1 2 13).toInt < (rc : Int) → ∃ (w : Int32) (e' : Nat) (σ' : Nat → Int32) (nx' sz' : Nat) (P' I' : Nat → Nat → Int32),
      Ok o1 (fun q => q.1 = w ∧ w_C q.2 e' σ' nx' sz' P' I' rc Rr) ∧ ∀ M1, e_V M1 σ → w_E M1 σ sz P I rc Rr → M1.2.1 175 21 = M.2.1 2 13 → M1.2.1 175 22 = M.2.1 2 14 → Ok (o2 M1) (fun q => q.1 = w ∧ w_E q.2 σ' sz' P' I' rc Rr)) : lw_42 L M o1 o2 := by
  obtain ⟨R8, e, σ, nx, sz, P, I, rc, Rr, C, E⟩ := R
  have W0 := R8.1.1.1.1.2
  have rc2 : (M.2.1 175 2).toInt = (rc : Int) := E.2.2.1
  have H0 := R8.1.1.1.1.1.2
  have r6 : rc ≤ 6 := by
    have := (H0.2.1 175 (by decide) 2).2
    have q : (y_tI 175 2).2 = 6 := rfl
    rw [q] at this
    omega
  have f13 := R8.1.2.1.1
  have f14 := R8.1.2.1.2
  have hf : (M.2.1 2 13).toInt < (rc : Int) := by
    rw [f13, ← rc2]
    exact W0.1.1
  obtain ⟨w, e', σ', nx', sz', P', I', c1, c2⟩ := c e σ nx sz P I rc Rr C r6 hf
  obtain ⟨⟨w1, M1⟩, e1, y1, q1, C1⟩ := Ok_and z1 c1
  dsimp only at q1 C1
  subst q1
  obtain ⟨R1, s1, rr⟩ := lw8_go (S := 0) R8 y1 rfl rfl rfl rfl rfl
  have E1 := w_E_c E rr
  have H1 := R1.1.1.1.1.1.2
  have X1 : e_V M1 σ := ⟨H1, E1.1.1.1, C.1.1.2.1.1.2.2⟩
  obtain ⟨⟨w2, M2⟩, e2, y2, q2, E2⟩ := Ok_and (z2 M1 H1 R1.1.1.1.1.2) (c2 M1 X1 E1 (by rw [rr 175 (by decide)]; exact f13.symm) (by rw [rr 175 (by decide)]; exact f14.symm))
  dsimp only at q2 E2
  subst q2
  obtain ⟨R2, s2⟩ := lw8_gr R1 hW hS h6 y2
  exact ⟨_, M1, M2, ⟨e1, R1.1.1.1, s1⟩, e2, ⟨R2, e', σ', nx', sz', P', I', rc, Rr, w_C_r C1 (lw8_len R1.1.1.1) y2.2.2, E2⟩, s2.trans s1⟩
/-- nothing happens -/
theorem lw9_nil {M : gM} {e : Nat} {σ : Nat → Int32} {nx sz : Nat} {P I : Nat → Nat → Int32} {rc : Nat} {Rr : Nat → List (Nat × Int32) × List (Nat × Nat × Nat)} {w : Int32} {o1 : Option (Int32 × gM)} {o2 : gM → Option (Int32 × gM)} (C : w_C M e σ nx sz P I rc Rr) (h1 : o1 = some (w, M)) (h2 : ∀ M1, e_V M1 σ → w_E M1 σ sz P I rc Rr → o2 M1 = some (w, M1)) : ∃ (w : Int32) (e' : Nat) (σ' : Nat → Int32) (nx' sz' : Nat) (P' I' : Nat → Nat → Int32),
      Ok o1 (fun q => q.1 = w ∧ w_C q.2 e' σ' nx' sz' P' I' rc Rr) ∧ ∀ M1, e_V M1 σ → w_E M1 σ sz P I rc Rr → M1.2.1 175 21 = M.2.1 2 13 → M1.2.1 175 22 = M.2.1 2 14 → Ok (o2 M1) (fun q => q.1 = w ∧ w_E q.2 σ' sz' P' I' rc Rr) :=
  ⟨w, e, σ, nx, sz, P, I, by rw [h1]; exact Ok_s ⟨rfl, C⟩, fun M1 X E _ _ => by rw [h2 M1 X E]; exact Ok_s ⟨rfl, E⟩⟩
theorem w_E_keep {M M' : gM} {σ : Nat → Int32} {sz : Nat} {P I : Nat → Nat → Int32} {rc : Nat} {R : Nat → List (Nat × Int32) × List (Nat × Nat × Nat)} (E : w_E M σ sz P I rc R) (z : (y_HT M' ∧ y_Fr (2 ^ 25 + 2 ^ 52) M M') ∧ (M'.2.1 175 25).toInt = (s_sz sz : Int) ∧ ∀ i, i < s_sz sz → ∀ j, j < 157 → M'.2.1 187 (157 * i + j) = s_kp σ sz P i j) : w_E M' σ (s_sz sz) (s_kp σ sz P) I rc R := by
  obtain ⟨⟨⟨a1, a2⟩, a3⟩, a4, a5, a6⟩ := E
  obtain ⟨⟨H, f⟩, z1, z2⟩ := z
  have e193 := fun q => y_fa (i := 193) f (by decide) (by decide) q
  refine ⟨⟨⟨(funext (fun q => y_fa (i := 185) f (by decide) (by decide) q)).trans a1, z1⟩, z2⟩, fun k hk j hj => (e193 _).trans (a4 k hk j hj), by rw [y_fk (i := 175) (k := 2) f (by decide)]; exact a5, fun t ht => r_rl_m (a6 t ht) f (by decide)⟩
/-- what the class's State of now becomes, all else as it was -/
theorem w_C_now {N : Nat → Prop} {M M' : gM} {e : Nat} {σ σ' : Nat → Int32} {nx sz : Nat} {P I : Nat → Nat → Int32} {rc : Nat} {R : Nat → List (Nat × Int32) × List (Nat × Nat × Nat)} (C : w_C M e σ nx sz P I rc R) (hl : 197 ≤ M.1.length) (f : w_F N M M') (h11 : M'.2.2.2 2 11 = M.2.2.2 2 11) (h12 : M'.2.1 2 12 = M.2.1 2 12) (h1 : ∀ i, N i → i ≠ 3 ∧ i < 19) (X : w_X M' 9 e σ') : w_C M' e σ' nx sz P I rc R := by
  have wh := C.1.1.2.1.2
  refine ⟨⟨⟨by rw [h11]; exact C.1.1.1, X⟩, w_Cp_F C.1.2 hl wh f (fun i z => ?_)⟩, w_Ci_F C.2.1 hl f (fun i z => ?_), w_Cr_F C.2.2 hl f h12 (fun i z => ?_)⟩
  · have := h1 _ z
    omega
  · have := h1 _ z
    omega
  · have := h1 _ z
    omega
/-- behind keep -/
theorem w_C_keep {M M' : gM} {e : Nat} {σ : Nat → Int32} {nx sz : Nat} {P I : Nat → Nat → Int32} {rc : Nat} {R : Nat → List (Nat × Int32) × List (Nat × Nat × Nat)} (C : w_C M e σ nx sz P I rc R) (hl : 197 ≤ M.1.length) (z : ((M'.1 = M.1 ∧ M'.2.2.2 = M.2.2.2) ∧ w_F (fun i => i = 19 ∨ (21 ≤ i ∧ i ≤ 120)) M M' ∧ M'.2.2.1 = M.2.2.1) ∧ w_Cp M' e ((nx + 1) % 20) (s_sz sz) (s_kp σ sz P)) : w_C M' e σ ((nx + 1) % 20) (s_sz sz) (s_kp σ sz P) I rc R := by
  obtain ⟨⟨⟨h1, h2⟩, f, _⟩, Cp⟩ := z
  have wh := C.1.1.2.1.2
  refine ⟨⟨⟨by rw [h2]; exact C.1.1.1, w_X_F C.1.1.2 f (fun j a b z => by omega) (fun j a b z => by unfold w_h at wh; omega)⟩, Cp⟩, w_Ci_F C.2.1 hl f (fun i z => by omega), w_Cr_F C.2.2 hl f ?_ (fun i z => by omega)⟩
  rw [(f.2 2 (by omega) (by omega)).1]
theorem w_hd {e : Nat} (h : w_h e) : (e + 5 < 9 ∨ 9 + 4 < e) ∧ 8 < e := by
  unfold w_h at h
  omega
theorem w_FN {N : Nat → Prop} {M M' : gM} (f : w_F N M M') (hl : 197 ≤ M.1.length) (h : ¬ N 2) : M'.2.1 2 = M.2.1 2 ∧ M'.2.2.2 2 = M.2.2.2 2 := f.2 2 (by omega) h
theorem yr_c {r : s_Ru} {σ : Nat → Int32} (V : s_V σ) {j : Nat} (h1 : 52 ≤ j) (h2 : j < 59) : (s_yr r σ).2 j = σ j := by
  have nn := s_Vn V
  show hs_set (s_ks (s_ag (s_fo σ (s_Ls r σ) (hs_m σ)) (hs_m σ)) (hs_n σ)).2 4 _ j = σ j
  rw [hs_sn (by omega), ks_o (fun k hk => by omega) _ (by omega), ag_o (fun k hk => by omega) _ (by omega), fo_lo h2]
theorem ks_st {σ : Nat → Int32} {t : Nat} : ∀ k, k ≤ 7 → (s_ks σ k).2 (13 + 4 * t) = σ (13 + 4 * t) ∨ ((s_ks σ k).2 (13 + 4 * t) = σ 4 ∧ (σ (13 + 4 * t)).toInt < 0) := by
  intro k
  induction k with
  | zero => intro _; exact Or.inl rfl
  | succ k ih =>
    intro hk
    have ih := ih (by omega)
    have e : s_ks σ (k + 1) = if s_kc (s_ks σ k).2 k = true then ((s_ks σ k).1 + 1, hs_set (s_ks σ k).2 (13 + 4 * k) ((s_ks σ k).2 4)) else s_ks σ k := rfl
    rw [e]
    by_cases c : s_kc (s_ks σ k).2 k = true
    · rw [if_pos c]
      show hs_set (s_ks σ k).2 (13 + 4 * k) ((s_ks σ k).2 4) (13 + 4 * t) = _ ∨ (hs_set (s_ks σ k).2 (13 + 4 * k) ((s_ks σ k).2 4) (13 + 4 * t) = _ ∧ _)
      by_cases ek : t = k
      · subst ek
        rw [hs_se, ks_o (fun q hq => by omega) _ (by omega)]
        refine Or.inr ⟨rfl, ?_⟩
        rcases ih with ih | ih
        · unfold s_kc at c
          rw [Bool.and_eq_true, decide_eq_true_iff, ih] at c
          exact c.1
        · exact ih.2
      · rw [hs_sn (by omega)]
        exact ih
    · rw [if_neg c]
      exact ih
theorem yr_st {r : s_Ru} {σ : Nat → Int32} (V : s_V σ) {t : Nat} (ht : t < 7) : (s_yr r σ).2 (13 + 4 * t) = σ (13 + 4 * t) ∨ ((s_yr r σ).2 (13 + 4 * t) = σ 4 ∧ (σ (13 + 4 * t)).toInt < 0) := by
  have nn := s_Vn V
  have e : (s_yr r σ).2 (13 + 4 * t) = (s_ks (s_ag (s_fo σ (s_Ls r σ) (hs_m σ)) (hs_m σ)) (hs_n σ)).2 (13 + 4 * t) := hs_sn (by omega)
  have b : ∀ j, j < 38 → s_ag (s_fo σ (s_Ls r σ) (hs_m σ)) (hs_m σ) j = σ j := fun j hj => by rw [ag_o (fun k hk => by omega) _ (by omega), fo_lo (by omega)]
  have h := ks_st (σ := s_ag (s_fo σ (s_Ls r σ) (hs_m σ)) (hs_m σ)) (t := t) (hs_n σ) nn.1.2
  rw [b _ (by omega), b 4 (by decide)] at h
  rw [e]
  exact h
theorem s_Q_yr {r : s_Ru} {σ : Nat → Int32} (V : s_V σ) (Q : s_Q σ) (h : (σ 4).toInt < 999) : s_Q (s_yr r σ).2 := by
  unfold s_Q at Q ⊢
  have e := i_addc (x := σ 4) (c := (1 : Int32)) (n := 1) rfl (by omega) (by omega)
  have e' : (σ 4 + 1).toInt = (σ 4).toInt + 1 := e
  rw [yr_4 V, yr_lo V (by decide) (by decide)]
  refine ⟨by omega, Q.2.1, s_Qc_c Q.2.2.1 (yr_lo V (by decide) (by decide)) (fun j h1 h2 => yr_c V h1 h2), ?_⟩
  have nm := yr_nm (r := r) V
  obtain ⟨q1, q2⟩ := Q.2.2.2
  refine ⟨by rw [nm.1]; exact q1, fun t ht => ?_⟩
  rw [nm.1] at ht
  rcases yr_st (r := r) V (t := t) (by omega) with h | ⟨h, _⟩
  · rw [h]
    exact q2 t ht
  · rw [h]
    omega
theorem C_yearX {M : gM} {e : Nat} {σ : Nat → Int32} {nx sz : Nat} {P I : Nat → Nat → Int32} {rc : Nat} {Rr : Nat → List (Nat × Int32) × List (Nat × Nat × Nat)} (G : k_G M) (hl : 197 ≤ M.1.length) (C : w_C M e σ nx sz P I rc Rr) (h6 : rc ≤ 6) (hf : (M.2.1 2 13).toInt < (rc : Int)) (h : 0 < (σ 0).toInt ∧ (σ 4).toInt < 999) : Ok (F_X11_year (some 2) M) (fun q => q.1 = (s_yr (s_ru Rr (M.2.1 2 13)) σ).1 ∧ w_C q.2 e (s_yr (s_ru Rr (M.2.1 2 13)) σ).2 ((nx + 1) % 20) (s_sz sz) (s_kp σ sz P) I rc Rr) := by
  have k2 : g_k M 2 = (11, 0) := k_kd G (by decide)
  have X := C.1.1.2
  have e11 := C.1.1.1
  have ke : g_k M e = (1, 0) := X.1.1.1.1.1
  have ks : g_k M 9 = (8, 0) := X.1.1.1.2.1.1
  have y5 : M.2.1 9 5 = σ 4 := X.1.1.2.1.2.1.1.2
  have z9 : (999 : Int32).toInt = 999 := rfl
  have t5 := X.2.1
  rw [if_pos h.1] at t5
  delta F_X11_year F_X11_year_b0
  refine x_gR k2 e11 (x_gI ke t5 (Ok_e (by decide) (x_gR k2 (G_r5 G) (x_gI ks y5 (Ok_t (Int32.lt_iff_toInt_lt.mpr (by omega)) ?_)))))
  refine x_gR k2 (G_r7 G) (x_gR k2 (G_r5 G) (x_gO (G_k19 G) ?_))
  refine Ok_b (C_keep G X C.1.2 hl) (fun M8 z => ?_)
  have C8 := w_C_keep C hl z
  obtain ⟨⟨⟨h1, h2⟩, f8, _⟩, _⟩ := z
  have G8 := k_G_eq G h1 h2
  have hl8 : 197 ≤ M8.1.length := by rw [h1]; exact hl
  have k8 : g_k M8 2 = (11, 0) := k_kd G8 (by decide)
  have n2 := w_FN f8 hl (by omega)
  have f13 : M8.2.1 2 13 = M.2.1 2 13 := congrFun n2.1 13
  refine x_gR k8 (G_r4 G8) (x_gR k8 C8.1.1.1 (x_gR k8 (G_r5 G8) (x_gO k8 ?_)))
  refine Ok_b (C_inForce G8 C8.2.2 h6 (by rw [f13]; exact hf)) (fun rl J => ?_)
  refine x_gO (G_k4 G8) ?_
  rw [f13] at J
  have X8 := C8.1.1.2
  refine Ok_b (C_year (by decide) (w_hd X8.1.2).2 (w_hd X8.1.2).1 (k_Y_G G8) X8.1.1 X8.2.2.1.1 J) (fun q z => ?_)
  obtain ⟨v15, M16⟩ := q
  obtain ⟨z1, ⟨X16, J16, Y16⟩, f16⟩ := z
  have F16 := w_F_Fy f16
  have n16 := w_FN F16 hl8 (by omega)
  have wh := X8.1.2
  refine Ok_s ⟨z1, w_C_now C8 hl8 F16 (by rw [n16.2]) (by rw [n16.1]) (fun i z => by omega) ⟨⟨X16, wh⟩, ?_, s_Q_yr X8.1.1.2.2 X8.2.2 h.2⟩⟩
  have le : e < M8.1.length := q_kl (by rw [X8.1.1.1.1.1]; decide)
  rw [(F16.2 e le (by unfold w_h at wh; omega)).1, yr_lo X8.1.1.2.2 (by decide) (by decide)]
  exact X8.2.1
theorem lw9_year {L : Nat} {M : gM} (R : lw9 L M) : lw_42 L M (F_X11_year (some 2) M) (F_X12_year (some 175)) := by
  have R8 := R.1
  have G := R8.2
  have hl := lw8_len R8.1.1.1
  refine lw9_act R (S_X11_year R8.1.1.1.1.1.1 R8.1.1.1.2.1.1.1) (fun M1 H W => S_X12_year H W) (by decide) (by decide) (by decide) (fun e σ nx sz P I rc Rr C h6 hf => ?_)
  have X := C.1.1.2
  have k2 : g_k M 2 = (11, 0) := k_kd G (by decide)
  have V := X.1.1.2.2
  have Q := X.2.2.1
  by_cases h0 : 0 < (σ 0).toInt
  · by_cases h9 : (σ 4).toInt < 999
    · refine ⟨_, _, _, _, _, _, _, C_yearX G hl C h6 hf ⟨h0, h9⟩, fun M1 X1 E1 f1 _ => ?_⟩
      delta F_X12_year F_X12_year_b0
      rw [e_gO X1.1, Option.bind_some, E_isHouseX X1, Option.bind_some, if_pos h0, if_neg (by decide), e_sd X1 (k := 4) rfl (by decide), if_neg (fun z => by rw [z] at h9; exact absurd h9 (by decide))]
      refine Ok_b (E_keep X1.1 X1.2.1 E1.1.1.2 E1.1.2) (fun M5 z => ?_)
      have E5 := w_E_keep E1 z
      have H5 := z.1.1
      have f5 := z.1.2
      have X5 : e_V M5 σ := ⟨H5, E5.1.1.1, V⟩
      rw [e_gC H5, Option.bind_some]
      have e21 : M5.2.1 175 21 = M.2.1 2 13 := (y_fk (i := 175) (k := 21) f5 (by decide)).trans f1
      have J := E_inForce E5 h6 (by rw [e21]; exact hf)
      rw [e21] at J
      refine Ok_b (E_year X5 J Q.1) (fun q z => ?_)
      obtain ⟨v7, M8⟩ := q
      exact Ok_s ⟨z.1, w_E_r E5 z.2.2 (by decide) z.2.1.1.2.1⟩
    · refine lw9_nil C (w := -1) ?_ (fun M1 X1 E1 => ?_)
      · have ke : g_k M e = (1, 0) := X.1.1.1.1.1
        have ks : g_k M 9 = (8, 0) := X.1.1.1.2.1.1
        have y5 : M.2.1 9 5 = σ 4 := X.1.1.2.1.2.1.1.2
        have t5 := X.2.1
        rw [if_pos h0] at t5
        have z9 : (999 : Int32).toInt = 999 := rfl
        delta F_X11_year F_X11_year_b0 F_X11_year_b23
        rw [t_gR k2 C.1.1.1, Option.bind_some, t_gI ke, Option.bind_some, t5, if_neg (by decide), t_gR k2 (G_r5 G), Option.bind_some, t_gI ks, Option.bind_some, y5, if_neg (fun z => by have := i_lt z; omega)]
      · delta F_X12_year F_X12_year_b0 F_X12_year_b19
        rw [e_gO X1.1, Option.bind_some, E_isHouseX X1, Option.bind_some, if_pos h0, if_neg (by decide), e_sd X1 (k := 4) rfl (by decide), if_pos (Int32.toInt_inj.mp (by have : (999 : Int32).toInt = 999 := rfl; omega))]
  · refine lw9_nil C (w := -1) ?_ (fun M1 X1 E1 => ?_)
    · have ke : g_k M e = (1, 0) := X.1.1.1.1.1
      have t5 := X.2.1
      rw [if_neg h0] at t5
      delta F_X11_year F_X11_year_b0 F_X11_year_b23
      rw [t_gR k2 C.1.1.1, Option.bind_some, t_gI ke, Option.bind_some, t5, if_pos rfl]
    · delta F_X12_year F_X12_year_b0 F_X12_year_b19
      rw [e_gO X1.1, Option.bind_some, E_isHouseX X1, Option.bind_some, if_neg h0, if_pos rfl]
-- 7za5.acts
/-! PROMPT, BURN, ASK, of both -/
theorem w_X_now {M M' : gM} {e : Nat} {σ σ' : Nat → Int32} (X : w_X M 9 e σ) (f : k_Fs 9 M M') (X' : k_X M' 9 e σ') (h0 : σ' 0 = σ 0) (Q : s_Q σ') : w_X M' 9 e σ' := by
  have wh := X.1.2
  refine ⟨⟨X', wh⟩, ?_, Q⟩
  rw [f.2 e (by unfold w_h at wh; omega), h0]
  exact X.2.1
theorem s_Q_kw {σ : Nat → Int32} {h t : Nat} {a v : Int32} (Q : s_Q σ) : s_Q (s_kw σ h t a v) := by
  unfold s_Q at Q ⊢
  rw [kw_lo (by decide), kw_lo (by decide)]
  exact ⟨Q.1, Q.2.1, s_Qc_c Q.2.2.1 (kw_lo (by decide)) (fun j _ hj => kw_lo hj), s_Qd_c Q.2.2.2 (kw_lo (by decide)) (fun t ht => kw_lo (by omega))⟩
/-- the class, one cell of now changed behind a keep -/
theorem w_C_nowF {M M' : gM} {e : Nat} {σ σ' : Nat → Int32} {nx sz : Nat} {P I : Nat → Nat → Int32} {rc : Nat} {R : Nat → List (Nat × Int32) × List (Nat × Nat × Nat)} (C : w_C M e σ nx sz P I rc R) (hl : 197 ≤ M.1.length) (f : k_Fs 9 M M') (X' : k_X M' 9 e σ') (h0 : σ' 0 = σ 0) (Q : s_Q σ') : w_C M' e σ' nx sz P I rc R := by
  have F := w_F_Fs f
  have n := w_FN F hl (by omega)
  exact w_C_now C hl F (by rw [n.2]) (by rw [n.1]) (fun i z => by omega) (w_X_now C.1.1.2 f X' h0 Q)
def s_pm (x : Int32) : Int32 := if x + (10 : Int32) < (99 : Int32) then x + (10 : Int32) else 99
theorem s_pm_r {x : Int32} (h : 1 ≤ x.toInt ∧ x.toInt ≤ 99) : (1 ≤ (s_pm x).toInt ∧ (s_pm x).toInt ≤ 99) ∧ (if x + (10 : Int32) ≤ (99 : Int32) then x + (10 : Int32) else 99) = s_pm x := by
  have a := i_addc (x := x) (c := (10 : Int32)) (n := 10) rfl (by omega) (by omega)
  have z : (99 : Int32).toInt = 99 := rfl
  unfold s_pm
  by_cases c : x + (10 : Int32) < (99 : Int32)
  · have := i_lt c
    rw [if_pos c, if_pos (Int32.le_iff_toInt_le.mpr (by omega))]
    exact ⟨by omega, rfl⟩
  · have := i_nlt c
    rw [if_neg c]
    refine ⟨by decide, ?_⟩
    by_cases d : x + (10 : Int32) ≤ (99 : Int32)
    · have := i_le d
      rw [if_pos d]
      exact Int32.toInt_inj.mp (by omega)
    · rw [if_neg d]
theorem lw9_prompt {L : Nat} {M : gM} {l1 l2 : Int32} (R : lw9 L M) : lw_42 L M (F_X11_prompt (some 2) l1 l2 M) (F_X12_prompt (some 175) l1 l2) := by
  have R8 := R.1
  have G := R8.2
  have hl := lw8_len R8.1.1.1
  refine lw9_act R (S_X11_prompt R8.1.1.1.1.1.1 R8.1.1.1.2.1.1.1) (fun M1 H W => S_X12_prompt H) (by decide) (by decide) (by decide) (fun e σ nx sz P I rc Rr C h6 hf => ?_)
  have X := C.1.1.2
  have k2 : g_k M 2 = (11, 0) := k_kd G (by decide)
  have V := X.1.1.2.2
  by_cases k : s_iK σ l1 l2 = true
  · have kk := k
    unfold s_iK at kk
    simp only [Bool.and_eq_true] at kk
    obtain ⟨⟨kH, kT⟩, kn⟩ := kk
    obtain ⟨a, a1, a2, a3, _⟩ := s_iH_n V kH
    obtain ⟨b, b1, b2, b3, _⟩ := s_iT_n V kT
    rw [a3, b3] at kn
    have nn := s_Vn V
    have ix := k_ix a1 b1 (by omega) (by omega)
    have kv := s_kn1 V a2 (t := b) (by omega) kn
    have pm := s_pm_r kv.2
    refine ⟨s_pm (s_st σ a b), e, s_kw σ a b (s_va σ a b) (s_pm (s_st σ a b)), (nx + 1) % 20, s_sz sz, s_kp σ sz P, I, ?_, fun M1 X1 E1 _ _ => ?_⟩
    · delta F_X11_prompt F_X11_prompt_b0
      refine x_gO k2 (x_eq (C_isKnownX k2 C.1.1.1 (k_rf G (by decide)) X.1.1) ?_)
      rw [if_pos k, if_neg (by decide)]
      refine x_gR k2 (G_r7 G) (x_gR k2 (G_r5 G) (x_gO (G_k19 G) ?_))
      refine Ok_b (C_keep G X C.1.2 hl) (fun M6 z => ?_)
      have C6 := w_C_keep C hl z
      obtain ⟨⟨⟨h1, h2⟩, f6, _⟩, _⟩ := z
      have G6 := k_G_eq G h1 h2
      have hl6 : 197 ≤ M6.1.length := by rw [h1]; exact hl
      have k6 : g_k M6 2 = (11, 0) := k_kd G6 (by decide)
      have X6 := C6.1.1.2
      obtain ⟨_, ⟨⟨ks, j1, j2⟩, j3, j4⟩, ⟨r0, r1⟩, r2, r3⟩ := k_XE X6.1.1
      have st := k_Xst X6.1.1 a2 (t := b) (by omega)
      refine x_gR k6 (G_r5 G6) (x_gR ks r1 (x_gR k6 (G_r5 G6) (x_gR ks r1 (x_aI j2 ix (by omega) st.1 ?_))))
      refine x_eq (show F_X11_prompted (s_st σ a b) M6 = some (s_pm (s_st σ a b)) from rfl) ?_
      refine x_sI j2 ix (by omega) ?_
      have f1 : k_Fs 9 M6 (mI M6 (9 + 2) (7 * a + b) (s_pm (s_st σ a b))) := k_Fs_up (by omega)
      have X7 := k_X_cell (w := 0) (a := s_va σ a b) (v := s_pm (s_st σ a b)) X6.1.1 (w_hd X6.1.2).1 a2 (t := b) (by omega) f1 (fun i k hi hk => mI_ne (by omega)) (fun i k hi => mI_ne (by omega)) (by rw [y_mI1, if_neg (fun z => by have := i_le z; have z0 : (0 : Int32).toInt = 0 := rfl; omega)]) (fun _ => ⟨(mI_ne (by omega)).trans (st.2 kn), kv.1⟩) pm.1.2
      refine x_gR k6 (G_r5 G6) (x_gR ks r1 (x_aI j2 ix (by omega) y_mI1 ?_))
      exact Ok_s ⟨rfl, w_C_nowF C6 hl6 f1 X7 (kw_lo (by decide)) (s_Q_kw X6.2.2)⟩
    · delta F_X12_prompt F_X12_prompt_b0 F_X12_prompt_b62
      rw [e_gO X1.1, Option.bind_some, E_isHeirX X1, Option.bind_some, if_pos kH, if_neg (by decide), E_isThingX X1, Option.bind_some, if_pos kT, if_neg (by decide), E_knowsOf X1 a1 b1 (by omega) (by omega), Option.bind_some, if_pos kn, if_neg (by decide)]
      refine Ok_b (E_keep X1.1 X1.2.1 E1.1.1.2 E1.1.2) (fun M5 z => ?_)
      have E5 := w_E_keep E1 z
      have H5 := z.1.1
      have X5 : e_V M5 σ := ⟨H5, E5.1.1.1, V⟩
      rw [e_gC H5, Option.bind_some, E_strengthOf X5 a1 b1 (by omega) (by omega), Option.bind_some, E_valueOf X5 a1 b1 (by omega) (by omega), Option.bind_some]
      have go : ∀ {y : Int32}, y = s_pm (s_st σ a b) → Ok ((gO 12 M5 (some 175)).bind fun i1 => (F_X12_knowsNow (some i1) l1 l2 (s_va σ a b) y M5).bind fun M2 => (gO 12 M2 (some 175)).bind fun i3 => (F_X12_strengthOf (some i3) l1 l2 M2).bind fun v4 => some (v4, M2)) (fun q => q.1 = s_pm (s_st σ a b) ∧ w_E q.2 (s_kw σ a b (s_va σ a b) (s_pm (s_st σ a b))) (s_sz sz) (s_kp σ sz P) I rc Rr) := by
        intro y hy
        subst hy
        rw [e_gO H5, Option.bind_some]
        refine Ok_b (E_knowsNow X5 a1 b1 (by omega) (by omega) pm.1.2 (fun _ => kv.1)) (fun M2 z => ?_)
        obtain ⟨f2, X2⟩ := z
        rw [e_gO X2.1, Option.bind_some, E_strengthOf X2 a1 b1 (by omega) (by omega), Option.bind_some]
        refine Ok_s ⟨?_, w_E_r E5 f2 (by decide) X2.2.1⟩
        show s_st (s_kw σ a b (s_va σ a b) (s_pm (s_st σ a b))) a b = _
        rw [kw_v.2, if_neg (fun z => by have := i_le z; have z0 : (0 : Int32).toInt = 0 := rfl; omega)]
      by_cases c : s_st σ a b + (10 : Int32) ≤ (99 : Int32)
      · have e := pm.2
        rw [if_pos c] at e
        rw [if_pos c]
        exact go e
      · have e := pm.2
        rw [if_neg c] at e
        rw [if_neg c]
        exact go e
  · refine lw9_nil C (w := -1) ?_ (fun M1 X1 E1 => ?_)
    · delta F_X11_prompt F_X11_prompt_b0
      rw [t_gO k2, Option.bind_some, C_isKnownX k2 C.1.1.1 (k_rf G (by decide)) X.1.1, Option.bind_some, if_neg k, if_pos rfl]
    · delta F_X12_prompt F_X12_prompt_b0 F_X12_prompt_b25
      rw [e_gO X1.1, Option.bind_some, E_isHeirX X1, Option.bind_some]
      unfold s_iK at k
      by_cases kH : s_iH σ l1 = true
      · rw [if_pos kH, if_neg (by decide), E_isThingX X1, Option.bind_some]
        by_cases kT : s_iT σ l2 = true
        · obtain ⟨a, a1, a2, a3, _⟩ := s_iH_n V kH
          obtain ⟨b, b1, b2, b3, _⟩ := s_iT_n V kT
          have nn := s_Vn V
          rw [if_pos kT, if_neg (by decide), E_knowsOf X1 a1 b1 (by omega) (by omega), Option.bind_some]
          rw [kH, kT, a3, b3] at k
          rw [if_neg (show ¬ s_kn σ a b = true from k), if_pos rfl]
        · rw [if_neg kT, if_pos rfl]
      · rw [if_neg kH, if_pos rfl]
/-! BURN -/
theorem k_X_8 {M M' : gM} {s e : Nat} {σ : Nat → Int32} {v : Int32} (X : k_X M s e σ) (hd : e + 5 < s ∨ s + 4 < e) (f : k_Fs s M M') (h4 : M'.2.1 s 4 = v) (o : ∀ i k, s ≤ i → i ≤ s + 4 → ¬ (i = s ∧ k = 4) → M'.2.1 i k = M.2.1 i k) : k_X M' s e (hs_set σ 8 v) := by
  have nn := s_Vn X.2.2
  have ne : ∀ j, j ≠ 8 → hs_set σ 8 v j = σ j := fun j hj => hs_sn hj
  have V' : s_V (hs_set σ 8 v) := by
    obtain ⟨V1, V2, V3, V4⟩ := X.2.2
    unfold s_V s_va s_st
    rw [ne 1 (by decide), ne 2 (by decide)]
    refine ⟨V1, fun a t ha ht => ?_, fun t ht => ?_, fun a ha => ?_⟩
    · rw [ne _ (by omega), ne _ (by omega)]
      exact V2 a t ha ht
    · rw [ne _ (by omega), ne _ (by omega), ne _ (by omega), ne _ (by omega)]
      exact V3 t ht
    · rw [ne _ (by omega), ne _ (by omega)]
      exact V4 a ha
  refine k_X_Fs X hd f ?_ V' (fun j _ _ _ h8 _ => ne j h8)
  obtain ⟨⟨⟨S1, S2⟩, S3⟩, S4, S5⟩ := X.2.1.2
  refine ⟨⟨⟨h4, ?_⟩, ?_⟩, fun h hh => ⟨?_, fun t ht => ?_⟩, fun t ht => ?_⟩
  · rw [o s 5 (by omega) (by omega) (by omega), ne 4 (by decide)]
    exact S2
  · rw [o s 6 (by omega) (by omega) (by omega), ne 5 (by decide)]
    exact S3
  · rw [ne 2 (by decide)] at hh
    rw [o (s + 3) h (by omega) (by omega) (by omega), ne _ (by omega)]
    exact (S4 h hh).1
  · rw [ne 2 (by decide)] at hh
    have c := (S4 h hh).2 t ht
    unfold k_c at c ⊢
    rw [o (s + 1) _ (by omega) (by omega) (by omega), o (s + 2) _ (by omega) (by omega) (by omega), ne _ (by omega), ne _ (by omega)]
    exact c
  · rw [ne 1 (by decide)] at ht
    rw [o (s + 4) t (by omega) (by omega) (by omega), ne _ (by omega)]
    exact S5 t ht
theorem k_X_5 {M M' : gM} {s e : Nat} {σ : Nat → Int32} {v : Int32} (X : k_X M s e σ) (hd : e + 5 < s ∨ s + 4 < e) (f : k_Fs s M M') (h6 : M'.2.1 s 6 = v) (o : ∀ i k, s ≤ i → i ≤ s + 4 → ¬ (i = s ∧ k = 6) → M'.2.1 i k = M.2.1 i k) : k_X M' s e (hs_set σ 5 v) := by
  have nn := s_Vn X.2.2
  have ne : ∀ j, j ≠ 5 → hs_set σ 5 v j = σ j := fun j hj => hs_sn hj
  have V' : s_V (hs_set σ 5 v) := by
    obtain ⟨V1, V2, V3, V4⟩ := X.2.2
    unfold s_V s_va s_st
    rw [ne 1 (by decide), ne 2 (by decide)]
    refine ⟨V1, fun a t ha ht => ?_, fun t ht => ?_, fun a ha => ?_⟩
    · rw [ne _ (by omega), ne _ (by omega)]
      exact V2 a t ha ht
    · rw [ne _ (by omega), ne _ (by omega), ne _ (by omega), ne _ (by omega)]
      exact V3 t ht
    · rw [ne _ (by omega), ne _ (by omega)]
      exact V4 a ha
  refine k_X_Fs X hd f ?_ V' (fun j _ _ h5 _ _ => ne j h5)
  obtain ⟨⟨⟨S1, S2⟩, S3⟩, S4, S5⟩ := X.2.1.2
  refine ⟨⟨⟨?_, ?_⟩, h6⟩, fun h hh => ⟨?_, fun t ht => ?_⟩, fun t ht => ?_⟩
  · rw [o s 4 (by omega) (by omega) (by omega), ne 8 (by decide)]
    exact S1
  · rw [o s 5 (by omega) (by omega) (by omega), ne 4 (by decide)]
    exact S2
  · rw [ne 2 (by decide)] at hh
    rw [o (s + 3) h (by omega) (by omega) (by omega), ne _ (by omega)]
    exact (S4 h hh).1
  · rw [ne 2 (by decide)] at hh
    have c := (S4 h hh).2 t ht
    unfold k_c at c ⊢
    rw [o (s + 1) _ (by omega) (by omega) (by omega), o (s + 2) _ (by omega) (by omega) (by omega), ne _ (by omega), ne _ (by omega)]
    exact c
  · rw [ne 1 (by decide)] at ht
    rw [o (s + 4) t (by omega) (by omega) (by omega), ne _ (by omega)]
    exact S5 t ht
theorem lw9_burn {L : Nat} {M : gM} {l1 : Int32} (R : lw9 L M) : lw_42 L M (F_X11_burn (some 2) l1 M) (F_X12_burn (some 175) l1) := by
  have R8 := R.1
  have G := R8.2
  have hl := lw8_len R8.1.1.1
  refine lw9_act R (S_X11_burn R8.1.1.1.1.1.1 R8.1.1.1.2.1.1.1) (fun M1 H W => S_X12_burn H) (by decide) (by decide) (by decide) (fun e σ nx sz P I rc Rr C h6 hf => ?_)
  have X := C.1.1.2
  have k2 : g_k M 2 = (11, 0) := k_kd G (by decide)
  have V := X.1.1.2.2
  have ks : g_k M 9 = (8, 0) := X.1.1.1.2.1.1
  have v8 : M.2.1 9 4 = σ 8 := X.1.1.2.1.2.1.1.1
  by_cases kT : s_iT σ l1 = true
  · by_cases kb : hs_is (σ 8) l1 = 1
    · refine lw9_nil C (w := 0) ?_ (fun M1 X1 E1 => ?_)
      · delta F_X11_burn F_X11_burn_b0 F_X11_burn_b23
        rw [t_gO k2, Option.bind_some, C_isThingX k2 C.1.1.1 X.1.1, Option.bind_some, if_pos kT, if_neg (by decide), t_gR k2 (G_r5 G), Option.bind_some, t_gI ks, Option.bind_some, v8, C_bit, Option.bind_some, if_pos kb]
      · delta F_X12_burn F_X12_burn_b0 F_X12_burn_b22
        rw [e_gO X1.1, Option.bind_some, E_isThingX X1, Option.bind_some, if_pos kT, if_neg (by decide), e_sd X1 (k := 8) rfl (by decide)]
        rw [show F_X12_isOf (σ 8) l1 M1 = some 1 from if_pos kb, Option.bind_some, if_neg (by decide)]
    · refine ⟨1, e, hs_set σ 8 (σ 8 ||| hs_bit l1), (nx + 1) % 20, s_sz sz, s_kp σ sz P, I, ?_, fun M1 X1 E1 _ _ => ?_⟩
      · delta F_X11_burn F_X11_burn_b0
        refine x_gO k2 (x_eq (C_isThingX k2 C.1.1.1 X.1.1) ?_)
        rw [if_pos kT, if_neg (by decide)]
        refine x_gR k2 (G_r5 G) (x_gI ks v8 (x_eq C_bit (Ok_e kb ?_)))
        refine x_gR k2 (G_r7 G) (x_gR k2 (G_r5 G) (x_gO (G_k19 G) ?_))
        refine Ok_b (C_keep G X C.1.2 hl) (fun M6 z => ?_)
        have C6 := w_C_keep C hl z
        obtain ⟨⟨⟨h1, h2⟩, f6, _⟩, _⟩ := z
        have G6 := k_G_eq G h1 h2
        have hl6 : 197 ≤ M6.1.length := by rw [h1]; exact hl
        have k6 : g_k M6 2 = (11, 0) := k_kd G6 (by decide)
        have X6 := C6.1.1.2
        refine x_gR k6 (G_r5 G6) (x_gI X6.1.1.1.2.1.1 X6.1.1.2.1.2.1.1.1 (x_pI X6.1.1.1.2.1.1 (Ok_s ⟨rfl, ?_⟩)))
        have f1 : k_Fs 9 M6 (mI M6 9 4 (σ 8 ||| hs_bit l1)) := k_Fs_up (by omega)
        refine w_C_nowF C6 hl6 f1 (k_X_8 X6.1.1 (w_hd X6.1.2).1 f1 y_mI1 (fun i k h1 h2 h3 => mI_ne (by omega))) (hs_sn (by decide)) ?_
        have Q := X6.2.2
        unfold s_Q at Q ⊢
        rw [hs_sn (by decide), hs_sn (by decide)]
        exact ⟨Q.1, Q.2.1, s_Qc_c Q.2.2.1 (hs_sn (by decide)) (fun j _ _ => hs_sn (by omega)), s_Qd_c Q.2.2.2 (hs_sn (by decide)) (fun t ht => hs_sn (by omega))⟩
      · delta F_X12_burn F_X12_burn_b0
        rw [e_gO X1.1, Option.bind_some, E_isThingX X1, Option.bind_some, if_pos kT, if_neg (by decide), e_sd X1 (k := 8) rfl (by decide)]
        rw [show F_X12_isOf (σ 8) l1 M1 = some 0 from if_neg kb, Option.bind_some, if_pos rfl]
        refine Ok_b (E_keep X1.1 X1.2.1 E1.1.1.2 E1.1.2) (fun M5 z => ?_)
        have E5 := w_E_keep E1 z
        have H5 := z.1.1
        have X5 : e_V M5 σ := ⟨H5, E5.1.1.1, V⟩
        rw [e_gR H5 (w := 185) rfl (by decide), Option.bind_some, e_aI H5 (t := 20) (i := 185) (n := 157) rfl (by decide) (by decide) (by decide), Option.bind_some]
        refine e_s185 H5 X5.2.1 (k := 8) rfl (by decide) (y_full rfl) (fun M9 H9 f9 e9 => Ok_s ⟨rfl, w_E_r E5 f9 (by decide) ?_⟩)
        rw [e9, X5.2.1]
        rfl
  · refine lw9_nil C (w := 0) ?_ (fun M1 X1 E1 => ?_)
    · delta F_X11_burn F_X11_burn_b0 F_X11_burn_b23
      rw [t_gO k2, Option.bind_some, C_isThingX k2 C.1.1.1 X.1.1, Option.bind_some, if_neg kT, if_pos rfl]
    · delta F_X12_burn F_X12_burn_b0 F_X12_burn_b22
      rw [e_gO X1.1, Option.bind_some, E_isThingX X1, Option.bind_some, if_neg kT, if_pos rfl]
/-! ASK -/
theorem lw9_ask {L : Nat} {M : gM} {l1 l2 : Int32} (R : lw9 L M) : lw_42 L M (F_X11_ask (some 2) l1 l2 M) (F_X12_ask (some 175) l1 l2) := by
  have R8 := R.1
  have G := R8.2
  have hl := lw8_len R8.1.1.1
  refine lw9_act R (S_X11_ask R8.1.1.1.1.1.1 R8.1.1.1.2.1.1.1) (fun M1 H W => S_X12_ask H) (by decide) (by decide) (by decide) (fun e σ nx sz P I rc Rr C h6 hf => ?_)
  have X := C.1.1.2
  have k2 : g_k M 2 = (11, 0) := k_kd G (by decide)
  have V := X.1.1.2.2
  have Q := X.2.2.2.1
  have ks : g_k M 9 = (8, 0) := X.1.1.1.2.1.1
  have v6 : M.2.1 9 6 = σ 5 := X.1.1.2.1.2.1.2
  have z1 : (1 : Int32).toInt = 1 := rfl
  have z0 : (0 : Int32).toInt = 0 := rfl
  by_cases kH : s_iH σ l1 = true
  · by_cases kT : s_iT σ l2 = true
    · by_cases k5 : (1 : Int32) ≤ σ 5
      · have k5' := i_le k5
        obtain ⟨a, a1, a2, a3, _⟩ := s_iH_n V kH
        obtain ⟨b, b1, b2, b3, _⟩ := s_iT_n V kT
        have nn := s_Vn V
        have ix := k_ix a1 b1 (by omega) (by omega)
        have s5 := i_subc (x := σ 5) (c := (1 : Int32)) (n := 1) rfl (by omega) (by omega)
        obtain ⟨τ, hτ⟩ : ∃ τ, τ = hs_set σ 5 (σ 5 - (1 : Int32)) := ⟨_, rfl⟩
        have ne : ∀ j, j ≠ 5 → τ j = σ j := fun j hj => by rw [hτ]; exact hs_sn hj
        have n5 : τ 5 = σ 5 - (1 : Int32) := by rw [hτ]; exact hs_se
        have va : s_va τ a b = s_va σ a b := ne _ (by omega)
        have kn := kn_of (σ := σ) (σ' := τ) (h := a) (t := b) va
        have nm := nm_of (σ := σ) (σ' := τ) (fun j hj => ne j (by omega))
        have Qτ : s_Q τ := by
          have Q' := X.2.2
          unfold s_Q at Q' ⊢
          rw [ne 4 (by decide), n5]
          exact ⟨Q'.1, by omega, s_Qc_c Q'.2.2.1 (ne 2 (by decide)) (fun j _ _ => ne j (by omega)), s_Qd_c Q'.2.2.2 (ne 1 (by decide)) (fun t ht => ne _ (by omega))⟩
        have Qa : s_Q (s_ak τ a b) := by
          unfold s_ak
          split
          · exact s_Q_kw Qτ
          · exact Qτ
        have h0 : s_ak τ a b 0 = σ 0 := by
          unfold s_ak
          split
          · exact (kw_lo (by decide)).trans (ne 0 (by decide))
          · exact ne 0 (by decide)
        refine ⟨if s_kn σ a b = true then s_va σ a b else 10, e, s_ak τ a b, (nx + 1) % 20, s_sz sz, s_kp σ sz P, I, ?_, fun M1 X1 E1 _ _ => ?_⟩
        · delta F_X11_ask F_X11_ask_b0
          refine x_gO k2 (x_eq (C_isHeirX k2 C.1.1.1 X.1.1) ?_)
          rw [if_pos kH, if_neg (by decide)]
          refine x_eq (C_isThingX k2 C.1.1.1 X.1.1) ?_
          rw [if_pos kT, if_neg (by decide)]
          refine x_gR k2 (G_r5 G) (x_gI ks v6 (Ok_t k5 ?_))
          refine x_gR k2 (G_r7 G) (x_gR k2 (G_r5 G) (x_gO (G_k19 G) ?_))
          refine Ok_b (C_keep G X C.1.2 hl) (fun M9 z => ?_)
          have C9 := w_C_keep C hl z
          obtain ⟨⟨⟨h1, h2⟩, f9, _⟩, _⟩ := z
          have G9 := k_G_eq G h1 h2
          have hl9 : 197 ≤ M9.1.length := by rw [h1]; exact hl
          have k9 : g_k M9 2 = (11, 0) := k_kd G9 (by decide)
          have X9 := C9.1.1.2
          obtain ⟨_, ⟨⟨js, j1, j2⟩, j3, j4⟩, ⟨r0, r1⟩, r2, r3⟩ := k_XE X9.1.1
          have go : ∀ {w : Int32}, Ok (F_X11_ask_b68 (some 2) l1 l2 w M9) (fun q => q.1 = w ∧ w_C q.2 e (s_ak τ a b) ((nx + 1) % 20) (s_sz sz) (s_kp σ sz P) I rc Rr) := by
            intro w
            delta F_X11_ask_b68
            refine x_gR k9 (G_r5 G9) (x_gI js X9.1.1.2.1.2.1.2 (x_pI js ?_))
            have f1 : k_Fs 9 M9 (mI M9 9 6 (σ 5 - (1 : Int32))) := k_Fs_up (by omega)
            have X10 : k_X (mI M9 9 6 (σ 5 - (1 : Int32))) 9 e τ := by
              rw [hτ]
              exact k_X_5 X9.1.1 (w_hd X9.1.2).1 f1 y_mI1 (fun i k h1 h2 h3 => mI_ne (by omega))
            refine x_gR k9 (G_r5 G9) (x_gR k9 C9.1.1.1 (x_gO js ?_))
            refine Ok_b (C_isAsked X10 (w_hd X9.1.2).1 a1 b1 (by omega) (by rw [ne 1 (by decide)]; omega)) (fun M7 z => ?_)
            exact Ok_s ⟨rfl, w_C_nowF C9 hl9 (k_Fs_tr f1 z.1) z.2 h0 Qa⟩
          refine x_gC k9 (x_eq (C_isKnownX k9 C9.1.1.1 (k_rf G9 (by decide)) X9.1.1) ?_)
          have ek : s_iK σ l1 l2 = s_kn σ a b := by
            unfold s_iK
            rw [kH, kT, a3, b3]
            rfl
          rw [ek]
          by_cases k : s_kn σ a b = true
          · rw [if_pos k, if_pos k, if_neg (by decide)]
            exact x_gR k9 (G_r5 G9) (x_gR js r0 (x_aI j1 ix (by omega) ((k_Xst X9.1.1 a2 (t := b) (by omega)).2 k) go))
          · rw [if_neg k, if_neg k, if_pos rfl]
            exact go
        · delta F_X12_ask F_X12_ask_b0
          rw [e_gO X1.1, Option.bind_some, E_isHeirX X1, Option.bind_some, if_pos kH, if_neg (by decide), E_isThingX X1, Option.bind_some, if_pos kT, if_neg (by decide), e_sd X1 (k := 5) rfl (by decide), if_neg (fun z => by rw [z] at k5'; omega)]
          refine Ok_b (E_keep X1.1 X1.2.1 E1.1.1.2 E1.1.2) (fun M6 z => ?_)
          have E6 := w_E_keep E1 z
          have H6 := z.1.1
          have X6 : e_V M6 σ := ⟨H6, E6.1.1.1, V⟩
          rw [e_gR H6 (w := 185) rfl (by decide), Option.bind_some, e_aI H6 (t := 20) (i := 185) (n := 157) rfl (by decide) (by decide) (by decide), Option.bind_some]
          refine e_s185 H6 X6.2.1 (k := 5) rfl (by decide) (y_full rfl) (fun M9 H9 f9 e9 => ?_)
          have e9' : M9.2.1 185 = τ := by
            rw [e9, hτ, X6.2.1]
            rfl
          have V9 : s_V τ := by
            obtain ⟨V1, V2, V3, V4⟩ := V
            unfold s_V s_va s_st
            rw [ne 1 (by decide), ne 2 (by decide)]
            refine ⟨V1, fun a t ha ht => ?_, fun t ht => ?_, fun a ha => ?_⟩
            · rw [ne _ (by omega), ne _ (by omega)]
              exact V2 a t ha ht
            · rw [ne _ (by omega), ne _ (by omega), ne _ (by omega), ne _ (by omega)]
              exact V3 t ht
            · rw [ne _ (by omega), ne _ (by omega)]
              exact V4 a ha
          have X9 : e_V M9 τ := ⟨H9, e9', V9⟩
          rw [e_gC H9, Option.bind_some]
          refine Ok_b (E_asks X9 a1 b1 (by omega) (by omega)) (fun q z => ?_)
          obtain ⟨v11, M12⟩ := q
          obtain ⟨q1, q2, q3⟩ := z
          refine Ok_s ⟨?_, w_E_r E6 (y_tr f9 q2) (by decide) q3.2.1⟩
          show v11 = _
          rw [← va, ← kn]
          exact q1
      · have k5' := i_nle k5
        refine lw9_nil C (w := -1) ?_ (fun M1 X1 E1 => ?_)
        · delta F_X11_ask F_X11_ask_b0 F_X11_ask_b27
          rw [t_gO k2, Option.bind_some, C_isHeirX k2 C.1.1.1 X.1.1, Option.bind_some, if_pos kH, if_neg (by decide), C_isThingX k2 C.1.1.1 X.1.1, Option.bind_some, if_pos kT, if_neg (by decide), t_gR k2 (G_r5 G), Option.bind_some, t_gI ks, Option.bind_some, v6, if_neg k5]
        · delta F_X12_ask F_X12_ask_b0 F_X12_ask_b25
          rw [e_gO X1.1, Option.bind_some, E_isHeirX X1, Option.bind_some, if_pos kH, if_neg (by decide), E_isThingX X1, Option.bind_some, if_pos kT, if_neg (by decide), e_sd X1 (k := 5) rfl (by decide), if_pos (Int32.toInt_inj.mp (by omega))]
    · refine lw9_nil C (w := -1) ?_ (fun M1 X1 E1 => ?_)
      · delta F_X11_ask F_X11_ask_b0 F_X11_ask_b27
        rw [t_gO k2, Option.bind_some, C_isHeirX k2 C.1.1.1 X.1.1, Option.bind_some, if_pos kH, if_neg (by decide), C_isThingX k2 C.1.1.1 X.1.1, Option.bind_some, if_neg kT, if_pos rfl]
      · delta F_X12_ask F_X12_ask_b0 F_X12_ask_b25
        rw [e_gO X1.1, Option.bind_some, E_isHeirX X1, Option.bind_some, if_pos kH, if_neg (by decide), E_isThingX X1, Option.bind_some, if_neg kT, if_pos rfl]
  · refine lw9_nil C (w := -1) ?_ (fun M1 X1 E1 => ?_)
    · delta F_X11_ask F_X11_ask_b0 F_X11_ask_b27
      rw [t_gO k2, Option.bind_some, C_isHeirX k2 C.1.1.1 X.1.1, Option.bind_some, if_neg kH, if_pos rfl]
    · delta F_X12_ask F_X12_ask_b0 F_X12_ask_b25
      rw [e_gO X1.1, Option.bind_some, E_isHeirX X1, Option.bind_some, if_neg kH, if_pos rfl]
-- 7za6.tell
/-! TELL, UNDO, of both -/
theorem is_01 {a v : Int32} {k : Nat} (h : v.toInt = (k : Int)) (hk : k ≤ 9) : hs_is a v = 0 ∨ hs_is a v = 1 := by
  rw [is_get h hk]
  split
  · exact Or.inr rfl
  · exact Or.inl rfl
theorem td_lo {σ : Nat → Int32} {f o t j : Nat} {w : Bool} (hj : j < 59) : s_td σ f o t w j = σ j := by
  unfold s_td
  split
  · exact kw_lo hj
  · rfl
theorem td_V {σ : Nat → Int32} {f o t : Nat} {w : Bool} (V : s_V σ) (hf : f < hs_m σ) (ht : t < 7) (k : s_kn σ f t = true) : s_V (s_td σ f o t w) := by
  unfold s_td
  split
  · have kv := s_kn1 V hf ht k
    exact kw_V V ht (s_tw_r V hf ht k).2 (fun _ => kv.1)
  · exact V
theorem td_Q {σ : Nat → Int32} {f o t : Nat} {w : Bool} (Q : s_Q σ) : s_Q (s_td σ f o t w) := by
  unfold s_td
  split
  · exact s_Q_kw Q
  · exact Q
/-- who tells knows it still, as before -/
theorem td_from {σ : Nat → Int32} {f o t : Nat} {w : Bool} (ht : t < 7) : s_va (s_td σ f o t w) f t = s_va σ f t ∧ s_st (s_td σ f o t w) f t = s_st σ f t := by
  unfold s_td
  by_cases c : s_tk σ f o t = true
  · rw [if_pos c]
    have c' := of_decide_eq_true c
    have ne : f ≠ o := fun e => by rw [e] at c'; omega
    exact kw_ne ht ht (Or.inl ne)
  · rw [if_neg c]
    exact ⟨rfl, rfl⟩
/-- who took it knows it -/
theorem td_to {σ : Nat → Int32} {f o t : Nat} {w : Bool} (V : s_V σ) (hf : f < hs_m σ) (ht : t < 7) (k : s_kn σ f t = true) (c : s_tk σ f o t = true) : s_kn (s_td σ f o t w) o t = true := by
  have kv := s_kn1 V hf ht k
  have r := s_tw_r (w := w) V hf ht k
  unfold s_td s_kn
  rw [if_pos c, kw_v.1, if_neg (fun z => by have := i_le z; have z0 : (0 : Int32).toInt = 0 := rfl; omega)]
  exact decide_eq_true kv.1.1
theorem td_nm {σ : Nat → Int32} {f o t : Nat} {w : Bool} : hs_n (s_td σ f o t w) = hs_n σ ∧ hs_m (s_td σ f o t w) = hs_m σ := nm_of (fun _ hj => td_lo (by omega))
/-- it goes on to three: the cells, how many took it, how many were asked -/
def s_sp (σ : Nat → Int32) (f wo t : Nat) : Nat → (Nat → Int32) × (Nat × Nat)
  | 0 => (σ, 0, 0)
  | h + 1 => if 3 ≤ (s_sp σ f wo t h).2.2 then s_sp σ f wo t h else if h = wo ∨ hs_is (σ (52 + f)) (Int32.ofNat h) ≠ 1 then s_sp σ f wo t h else (s_td (s_sp σ f wo t h).1 f h t false, (if s_tk (s_sp σ f wo t h).1 f h t = true then (s_sp σ f wo t h).2.1 + 1 else (s_sp σ f wo t h).2.1), (s_sp σ f wo t h).2.2 + 1)
theorem sp_succ {σ : Nat → Int32} {f wo t h : Nat} : s_sp σ f wo t (h + 1) = if 3 ≤ (s_sp σ f wo t h).2.2 then s_sp σ f wo t h else if h = wo ∨ hs_is (σ (52 + f)) (Int32.ofNat h) ≠ 1 then s_sp σ f wo t h else (s_td (s_sp σ f wo t h).1 f h t false, (if s_tk (s_sp σ f wo t h).1 f h t = true then (s_sp σ f wo t h).2.1 + 1 else (s_sp σ f wo t h).2.1), (s_sp σ f wo t h).2.2 + 1) := rfl
theorem sp_3 {σ : Nat → Int32} {f wo t h : Nat} (c : 3 ≤ (s_sp σ f wo t h).2.2) : ∀ k, s_sp σ f wo t (h + k) = s_sp σ f wo t h := by
  intro k
  induction k with
  | zero => rfl
  | succ k ih =>
    show s_sp σ f wo t ((h + k) + 1) = _
    rw [sp_succ, ih, if_pos c]
theorem sp_i {σ : Nat → Int32} {f wo t : Nat} (V : s_V σ) (Q : s_Q σ) (hf : f < hs_m σ) (ht : t < 7) (k : s_kn σ f t = true) : ∀ h, h ≤ hs_m σ → ((s_V (s_sp σ f wo t h).1 ∧ s_Q (s_sp σ f wo t h).1) ∧ (s_kn (s_sp σ f wo t h).1 f t = true ∧ ∀ j, j < 59 → (s_sp σ f wo t h).1 j = σ j)) ∧ (s_sp σ f wo t h).2.1 ≤ h ∧ (s_sp σ f wo t h).2.2 ≤ 3 := by
  intro h
  induction h with
  | zero => intro _; exact ⟨⟨⟨V, Q⟩, k, fun _ _ => rfl⟩, Nat.le_refl _, Nat.zero_le _⟩
  | succ h ih =>
    intro hh
    obtain ⟨⟨⟨a1, a2⟩, a3, a4⟩, a5, a6⟩ := ih (by omega)
    have nm := nm_of (σ := σ) (σ' := (s_sp σ f wo t h).1) (fun j hj => a4 j (by omega))
    rw [sp_succ]
    by_cases c : 3 ≤ (s_sp σ f wo t h).2.2
    · rw [if_pos c]
      exact ⟨⟨⟨a1, a2⟩, a3, a4⟩, by omega, a6⟩
    rw [if_neg c]
    by_cases d : h = wo ∨ hs_is (σ (52 + f)) (Int32.ofNat h) ≠ 1
    · rw [if_pos d]
      exact ⟨⟨⟨a1, a2⟩, a3, a4⟩, by omega, a6⟩
    rw [if_neg d]
    refine ⟨⟨⟨td_V a1 (by omega) ht a3, td_Q a2⟩, ?_, fun j hj => (td_lo hj).trans (a4 j hj)⟩, ?_, by show (s_sp σ f wo t h).2.2 + 1 ≤ 3; omega⟩
    · exact (kn_of (td_from ht).1).trans a3
    · show (if s_tk (s_sp σ f wo t h).1 f h t = true then (s_sp σ f wo t h).2.1 + 1 else (s_sp σ f wo t h).2.1) ≤ h + 1
      split <;> omega
theorem i_n1 (k : Nat) (h : k ≤ 100) : Int32.ofNat k + (1 : Int32) = Int32.ofNat (k + 1) := n_inc (i_ofNat (by omega)) (by omega)
theorem C_spread {M0 : gM} {e f wo t : Nat} {σ : Nat → Int32} {l1 l2 l3 : Int32} (G : k_G M0) (e11 : M0.2.2.2 2 11 = some e) (wh : w_h e) (V : s_V σ) (Q : s_Q σ) (h1 : l1.toInt = (f : Int)) (h2 : l2.toInt = (wo : Int)) (h3 : l3.toInt = (t : Int)) (hf : f < hs_m σ) (hw : wo < hs_m σ) (ht : t < hs_n σ) (k : s_kn σ f t = true) : ∀ (n h : Nat) {l6 : Int32} {M : gM}, k_Fs 9 M0 M → k_X M 9 e (s_sp σ f wo t h).1 → l6.toInt = (h : Int) → h ≤ hs_m σ → hs_m σ - h < n → Ok (F_X11_spread_L9 n (some 2) l1 l2 l3 (Int32.ofNat (s_sp σ f wo t h).2.1) (Int32.ofNat (s_sp σ f wo t h).2.2) l6 M) (fun q => q.1 = Int32.ofNat (s_sp σ f wo t (hs_m σ)).2.1 ∧ k_Fs 9 M0 q.2 ∧ k_X q.2 9 e (s_sp σ f wo t (hs_m σ)).1) := by
  have nn := s_Vn V
  intro n
  induction n with
  | zero => intro h l6 M F X h6 hh hn; omega
  | succ n ih =>
    intro h l6 M F X h6 hh hn
    obtain ⟨⟨⟨a1, a2⟩, a3, a4⟩, a5, a6⟩ := sp_i (wo := wo) V Q hf (by omega) k h hh
    have nm := nm_of (σ := σ) (σ' := (s_sp σ f wo t h).1) (fun j hj => a4 j (by omega))
    obtain ⟨⟨ke, ⟨e6, e7⟩, _⟩, ⟨⟨ks, _⟩, _⟩, _⟩ := k_XE X
    have GM := k_G_eq G F.1.1.1 F.1.2
    have k2 := G_k2 GM
    have r11 : M.2.2.2 2 11 = some e := by rw [F.1.2]; exact e11
    have R4 : g_k M (e + 5) = (20, 7) ∧ M.2.2.2 e 4 = some (e + 5) := k_XR (i := 4) X (by decide)
    have cous : M.2.1 (e + 5) f = σ (52 + f) := by
      have := (X.2.1.1.2.2.2 f (by rw [a4 2 (by decide)]; omega)).2
      rw [a4 _ (by omega)] at this
      exact this
    have z3 : (3 : Int32).toInt = 3 := rfl
    have o3 : (Int32.ofNat (s_sp σ f wo t h).2.2).toInt = ((s_sp σ f wo t h).2.2 : Int) := i_ofNat (by omega)
    have e2 : (s_sp σ f wo t h).1 2 = σ 2 := a4 2 (by decide)
    show Ok (F_X11_spread_b9 (F_X11_spread_L9 n) (some 2) l1 l2 l3 _ _ l6 M) _
    delta F_X11_spread_b9 F_X11_spread_b78 F_X11_spread_b72
    refine x_gR k2 r11 (x_gI ke (e7.trans e2) ?_)
    have c0 := i_le_n h6 nn.2.1
    by_cases c : hs_m σ ≤ h
    · have : h = hs_m σ := by omega
      subst this
      rw [if_pos (c0.mpr c)]
      exact Ok_s ⟨rfl, F, X⟩
    rw [if_neg (mt c0.mp c)]
    have ih' := fun (M : gM) => ih (h + 1) (l6 := l6 + 1) (M := M)
    rw [sp_succ] at ih'
    have l6n : l6 = Int32.ofNat h := i_nt h6 (by omega)
    by_cases d : 3 ≤ (s_sp σ f wo t h).2.2
    · rw [if_pos (Int32.le_iff_toInt_le.mpr (by omega))]
      have e3 := sp_3 d (hs_m σ - h)
      rw [show h + (hs_m σ - h) = hs_m σ by omega] at e3
      rw [e3]
      exact Ok_s ⟨rfl, F, X⟩
    rw [if_neg (fun z => by have := i_le z; omega)]
    rw [if_neg d] at ih'
    by_cases w : l6 = l2
    · have : h = wo := by rw [w] at h6; omega
      rw [if_pos w]
      rw [if_pos (Or.inl this)] at ih'
      exact ih' _ F X (i_nx h6 (by omega)) (by omega) (by omega)
    have hwo : h ≠ wo := fun z => w (Int32.toInt_inj.mp (by omega))
    rw [if_neg w]
    refine x_gR k2 r11 (x_gR ke R4.2 (x_aI R4.1 h1 (by omega) cous (x_eq C_bit ?_)))
    by_cases b : hs_is (σ (52 + f)) l6 = 1
    · rw [if_pos b]
      rw [if_neg (by rw [← l6n]; exact fun z => z.elim hwo (fun y => y b))] at ih'
      refine x_gR k2 (G_r5 GM) (x_gO ks ?_)
      refine Ok_b (C_takes (l4 := 0) X (w_hd wh).1 h6 h1 h3 (by omega) (by omega) (by omega) a3) (fun q z => ?_)
      obtain ⟨v9, M10⟩ := q
      obtain ⟨z1, z2, z3⟩ := z
      dsimp only at z1 z2 z3 ⊢
      subst z1
      rw [show decide ((0 : Int32) ≠ 0) = false from rfl] at z3
      have go := ih' _ (k_Fs_tr F z2) z3 (i_nx h6 (by omega)) (by omega) (by omega)
      dsimp only at go
      have i1 : Int32.ofNat (s_sp σ f wo t h).2.2 + (1 : Int32) = Int32.ofNat ((s_sp σ f wo t h).2.2 + 1) := i_n1 _ (by omega)
      have i2 : Int32.ofNat (s_sp σ f wo t h).2.1 + (1 : Int32) = Int32.ofNat ((s_sp σ f wo t h).2.1 + 1) := i_n1 _ (by omega)
      by_cases tk : s_tk (s_sp σ f wo t h).1 f h t = true
      · rw [if_pos tk, if_neg (by decide)]
        rw [if_pos tk] at go
        rw [i1, i2]
        exact go
      · rw [if_neg tk, if_pos rfl]
        rw [if_neg tk] at go
        rw [i1]
        exact go
    · rw [if_neg b]
      rw [if_pos (Or.inr (by rw [← l6n]; exact b))] at ih'
      exact ih' _ F X (i_nx h6 (by omega)) (by omega) (by omega)
theorem E_goesOn {M0 : gM} {f wo t : Nat} {σ : Nat → Int32} {l1 l2 l3 : Int32} (V : s_V σ) (Q : s_Q σ) (h1 : l1.toInt = (f : Int)) (h2 : l2.toInt = (wo : Int)) (h3 : l3.toInt = (t : Int)) (hf : f < hs_m σ) (hw : wo < hs_m σ) (ht : t < hs_n σ) (k : s_kn σ f t = true) : ∀ (n h : Nat) {l6 : Int32} {M : gM}, y_Fr (2 ^ 50) M0 M → e_V M (s_sp σ f wo t h).1 → l6.toInt = (h : Int) → h ≤ hs_m σ → hs_m σ - h < n → Ok (F_X12_goesOn_L9 n (some 175) l1 l2 l3 (Int32.ofNat (s_sp σ f wo t h).2.1) (Int32.ofNat (s_sp σ f wo t h).2.2) l6 M) (fun q => q.1 = Int32.ofNat (s_sp σ f wo t (hs_m σ)).2.1 ∧ y_Fr (2 ^ 50) M0 q.2 ∧ e_V q.2 (s_sp σ f wo t (hs_m σ)).1) := by
  have nn := s_Vn V
  intro n
  induction n with
  | zero => intro h l6 M F X h6 hh hn; omega
  | succ n ih =>
    intro h l6 M F X h6 hh hn
    obtain ⟨⟨⟨a1, a2⟩, a3, a4⟩, a5, a6⟩ := sp_i (wo := wo) V Q hf (by omega) k h hh
    have nm := nm_of (σ := σ) (σ' := (s_sp σ f wo t h).1) (fun j hj => a4 j (by omega))
    have z3 : (3 : Int32).toInt = 3 := rfl
    have o3 : (Int32.ofNat (s_sp σ f wo t h).2.2).toInt = ((s_sp σ f wo t h).2.2 : Int) := i_ofNat (by omega)
    have e2 : (s_sp σ f wo t h).1 2 = σ 2 := a4 2 (by decide)
    show Ok (F_X12_goesOn_b9 (F_X12_goesOn_L9 n) (some 175) l1 l2 l3 _ _ l6 M) _
    delta F_X12_goesOn_b9 F_X12_goesOn_b90 F_X12_goesOn_b84 F_X12_goesOn_b81 F_X12_goesOn_b84
    rw [e_sd X (k := 2) rfl (by decide), e2]
    have c0 := i_le_n h6 nn.2.1
    by_cases c : hs_m σ ≤ h
    · have : h = hs_m σ := by omega
      subst this
      rw [if_pos (c0.mpr c)]
      exact Ok_s ⟨rfl, F, X⟩
    rw [if_neg (mt c0.mp c)]
    have ih' := fun (M : gM) => ih (h + 1) (l6 := l6 + 1) (M := M)
    rw [sp_succ] at ih'
    have l6n : l6 = Int32.ofNat h := i_nt h6 (by omega)
    by_cases d : 3 ≤ (s_sp σ f wo t h).2.2
    · rw [if_pos (Int32.le_iff_toInt_le.mpr (by omega))]
      have e3 := sp_3 d (hs_m σ - h)
      rw [show h + (hs_m σ - h) = hs_m σ by omega] at e3
      rw [e3]
      exact Ok_s ⟨rfl, F, X⟩
    rw [if_neg (fun z => by have := i_le z; omega)]
    rw [if_neg d] at ih'
    by_cases w : l6 = l2
    · have : h = wo := by rw [w] at h6; omega
      rw [if_pos w]
      rw [if_pos (Or.inl this)] at ih'
      exact ih' _ F X (i_nx h6 (by omega)) (by omega) (by omega)
    have hwo : h ≠ wo := fun z => w (Int32.toInt_inj.mp (by omega))
    have a52 := i_cadd (c := (52 : Int32)) (x := l1) (n := 52) rfl (by omega) (by omega)
    rw [if_neg w, e_sd X (k := 52 + f) (by omega) (by omega), a4 (52 + f) (by omega)]
    by_cases b : hs_is (σ (52 + f)) l6 = 1
    · rw [show F_X12_isOf (σ (52 + f)) l6 M = some 1 from if_pos b, Option.bind_some, if_neg (by decide)]
      rw [if_neg (by rw [← l6n]; exact fun z => z.elim hwo (fun y => y b))] at ih'
      rw [e_gO X.1, Option.bind_some, E_strengthOf X h1 h3 (by omega) (by omega), Option.bind_some]
      refine Ok_b (E_takes (w := false) X h1 h6 h3 (by omega) (by omega) (by omega) a3 rfl) (fun q z => ?_)
      obtain ⟨v9, M10⟩ := q
      obtain ⟨z1, z2, z3⟩ := z
      dsimp only at z1 z2 z3 ⊢
      subst z1
      have go := ih' _ (y_tr F z2) z3 (i_nx h6 (by omega)) (by omega) (by omega)
      dsimp only at go
      have i1 : Int32.ofNat (s_sp σ f wo t h).2.2 + (1 : Int32) = Int32.ofNat ((s_sp σ f wo t h).2.2 + 1) := i_n1 _ (by omega)
      have i2 : Int32.ofNat (s_sp σ f wo t h).2.1 + (1 : Int32) = Int32.ofNat ((s_sp σ f wo t h).2.1 + 1) := i_n1 _ (by omega)
      by_cases tk : s_tk (s_sp σ f wo t h).1 f h t = true
      · rw [if_pos tk, if_neg (by decide)]
        rw [if_pos tk] at go
        rw [i1, i2]
        exact go
      · rw [if_neg tk, if_pos rfl]
        rw [if_neg tk] at go
        rw [i1, show Int32.ofNat (s_sp σ f wo t h).2.1 + (0 : Int32) = Int32.ofNat (s_sp σ f wo t h).2.1 from Int32.add_zero _]
        exact go
    · rw [show F_X12_isOf (σ (52 + f)) l6 M = some 0 from if_neg b, Option.bind_some, if_pos rfl]
      rw [if_pos (Or.inr (by rw [← l6n]; exact b))] at ih'
      exact ih' _ F X (i_nx h6 (by omega)) (by omega) (by omega)
-- 7za7.tell2
/-! TELL -/
theorem lw9_tell {L : Nat} {M : gM} {l1 l2 l3 l4 : Int32} (R : lw9 L M) : lw_42 L M (F_X11_tell (some 2) l1 l2 l3 l4 M) (F_X12_tell (some 175) l1 l2 l3 l4) := by
  have R8 := R.1
  have G := R8.2
  have hl := lw8_len R8.1.1.1
  refine lw9_act R (S_X11_tell R8.1.1.1.1.1.1 R8.1.1.1.2.1.1.1) (fun M1 H W => S_X12_tell H) (by decide) (by decide) (by decide) (fun e σ nx sz P I rc Rr C h6 hf => ?_)
  have X := C.1.1.2
  have k2 : g_k M 2 = (11, 0) := k_kd G (by decide)
  have V := X.1.1.2.2
  have nn := s_Vn V
  have wh := X.1.2
  have z0 : (0 : Int32).toInt = 0 := rfl
  -- when it is refused
  have no : ¬ ((s_iH σ l2 = true ∧ s_iK σ l1 l3 = true) ∧ hs_is (σ (52 + l1.toNatClampNeg)) l2 = 1) → _ := fun h => lw9_nil (w := -1) (o1 := F_X11_tell (some 2) l1 l2 l3 l4 M) (o2 := F_X12_tell (some 175) l1 l2 l3 l4) C (by
    delta F_X11_tell F_X11_tell_b0 F_X11_tell_b33
    rw [t_gO k2, Option.bind_some, C_isHeirX k2 C.1.1.1 X.1.1, Option.bind_some]
    by_cases q2 : s_iH σ l2 = true
    · rw [if_pos q2, if_neg (by decide), C_isKnownX k2 C.1.1.1 (G_r5 G) X.1.1, Option.bind_some]
      by_cases qk : s_iK σ l1 l3 = true
      · have kk := qk
        unfold s_iK at kk
        simp only [Bool.and_eq_true] at kk
        obtain ⟨a, a1, a2, a3, _⟩ := s_iH_n V kk.1.1
        obtain ⟨o, o1, o2, o3, _⟩ := s_iH_n V q2
        have R4 : g_k M (e + 5) = (20, 7) ∧ M.2.2.2 e 4 = some (e + 5) := k_XR (i := 4) X.1.1 (by decide)
        have cous : M.2.1 (e + 5) a = σ (52 + a) := (X.1.1.2.1.1.2.2.2 a (by omega)).2
        have r := is_01 (a := σ (52 + a)) o1 (by omega)
        have b0 : hs_is (σ (52 + a)) l2 = 0 := by
          rcases r with r | r
          · exact r
          · exact absurd ⟨⟨q2, qk⟩, by rw [a3]; exact r⟩ h
        rw [if_pos qk, if_neg (by decide), t_gR k2 C.1.1.1, Option.bind_some, t_gR X.1.1.1.1.1 R4.2, Option.bind_some, t_aI R4.1 (by omega) (by omega), Option.bind_some, i_cl a1, cous, C_bit, Option.bind_some, if_pos b0]
      · rw [if_neg qk, if_pos rfl]
    · rw [if_neg q2, if_pos rfl]) (fun M1 X1 E1 => by
    delta F_X12_tell F_X12_tell_b0 F_X12_tell_b49
    rw [e_gO X1.1, Option.bind_some, E_isHeirX X1, Option.bind_some]
    by_cases q1 : s_iH σ l1 = true
    · rw [if_pos q1, if_neg (by decide), E_isHeirX X1, Option.bind_some]
      by_cases q2 : s_iH σ l2 = true
      · rw [if_pos q2, if_neg (by decide), E_isThingX X1, Option.bind_some]
        by_cases q3 : s_iT σ l3 = true
        · obtain ⟨a, a1, a2, a3, _⟩ := s_iH_n V q1
          obtain ⟨b, b1, b2, b3, _⟩ := s_iT_n V q3
          have a52 := i_cadd (c := (52 : Int32)) (x := l1) (n := 52) rfl (by omega) (by omega)
          rw [if_pos q3, if_neg (by decide), e_sd X1 (k := 52 + a) (by omega) (by omega)]
          by_cases qb : hs_is (σ (52 + a)) l2 = 1
          · rw [show F_X12_isOf (σ (52 + a)) l2 M1 = some 1 from if_pos qb, Option.bind_some, if_neg (by decide), E_knowsOf X1 a1 b1 (by omega) (by omega), Option.bind_some]
            have nk : ¬ s_kn σ a b = true := fun z => h ⟨⟨q2, by unfold s_iK; rw [q1, q3, a3, b3, z]; rfl⟩, by rw [a3]; exact qb⟩
            rw [if_neg nk, if_pos rfl]
          · rw [show F_X12_isOf (σ (52 + a)) l2 M1 = some 0 from if_neg qb, Option.bind_some, if_pos rfl]
        · rw [if_neg q3, if_pos rfl]
      · rw [if_neg q2, if_pos rfl]
    · rw [if_neg q1, if_pos rfl])
  refine (Classical.em ((s_iH σ l2 = true ∧ s_iK σ l1 l3 = true) ∧ hs_is (σ (52 + l1.toNatClampNeg)) l2 = 1)).elim (fun h => ?_) (fun h => no h)
  clear no
  obtain ⟨⟨q2, qk⟩, qb⟩ := h
  have kk := qk
  unfold s_iK at kk
  simp only [Bool.and_eq_true] at kk
  obtain ⟨⟨q1, q3⟩, kn⟩ := kk
  obtain ⟨a, a1, a2, a3, _⟩ := s_iH_n V q1
  obtain ⟨o, o1, o2, o3, _⟩ := s_iH_n V q2
  obtain ⟨b, b1, b2, b3, _⟩ := s_iT_n V q3
  rw [a3, b3] at kn
  rw [a3] at qb
  have ix := k_ix a1 b1 (by omega) (by omega)
  obtain ⟨lv, hlv⟩ : ∃ lv, lv = decide (l4 ≠ 0) := ⟨_, rfl⟩
  obtain ⟨τ, hτ⟩ : ∃ τ, τ = s_td σ a o b lv := ⟨_, rfl⟩
  have Vτ : s_V τ := by rw [hτ]; exact td_V V a2 (by omega) kn
  have Qτ : s_Q τ := by rw [hτ]; exact td_Q X.2.2
  have lo : ∀ j, j < 59 → τ j = σ j := fun j hj => by rw [hτ]; exact td_lo hj
  have nm := nm_of (σ := σ) (σ' := τ) (fun j hj => lo j (by omega))
  have fr : s_va τ a b = s_va σ a b := by rw [hτ]; exact (td_from (by omega)).1
  have fk : s_kn τ a b = true := (kn_of fr).trans kn
  -- what comes of it
  obtain ⟨goes, hg⟩ : ∃ g : Bool, g = (s_tk σ a o b && (lv && decide (s_va τ a b ≠ τ (10 + 4 * b)))) := ⟨_, rfl⟩
  have tok : s_tk σ a o b = true → s_kn τ o b = true := fun c => by rw [hτ]; exact td_to V a2 (by omega) kn c
  have sp := fun (c : s_tk σ a o b = true) => sp_i (wo := a) Vτ Qτ (by omega) (by omega) (tok c) (hs_m τ) (Nat.le_refl _)
  obtain ⟨w, hw⟩ : ∃ w : Int32, w = (if s_tk σ a o b = true then (if goes = true then (1 : Int32) + Int32.ofNat (s_sp τ o a b (hs_m τ)).2.1 else 1) else 0) := ⟨_, rfl⟩
  obtain ⟨σ', hσ'⟩ : ∃ σ' : Nat → Int32, σ' = (if goes = true then (s_sp τ o a b (hs_m τ)).1 else τ) := ⟨_, rfl⟩
  have gtk : goes = true → s_tk σ a o b = true := fun z => by
    rw [hg] at z
    simp only [Bool.and_eq_true] at z
    exact z.1
  have lo' : σ' 0 = σ 0 := by
    rw [hσ']
    by_cases c : goes = true
    · rw [if_pos c, (sp (gtk c)).1.2.2 0 (by decide)]
      exact lo 0 (by decide)
    · rw [if_neg c]
      exact lo 0 (by decide)
  have Q' : s_Q σ' := by
    rw [hσ']
    by_cases c : goes = true
    · rw [if_pos c]
      exact (sp (gtk c)).1.1.2
    · rw [if_neg c]
      exact Qτ
  refine ⟨w, e, σ', (nx + 1) % 20, s_sz sz, s_kp σ sz P, I, ?_, fun M1 X1 E1 _ _ => ?_⟩
  · have R4 : g_k M (e + 5) = (20, 7) ∧ M.2.2.2 e 4 = some (e + 5) := k_XR (i := 4) X.1.1 (by decide)
    have cous : M.2.1 (e + 5) a = σ (52 + a) := (X.1.1.2.1.1.2.2.2 a (by omega)).2
    delta F_X11_tell F_X11_tell_b0 F_X11_tell_b94
    refine x_gO k2 (x_eq (C_isHeirX k2 C.1.1.1 X.1.1) ?_)
    rw [if_pos q2, if_neg (by decide)]
    refine x_eq (C_isKnownX k2 C.1.1.1 (G_r5 G) X.1.1) ?_
    rw [if_pos qk, if_neg (by decide)]
    refine x_gR k2 C.1.1.1 (x_gR X.1.1.1.1.1 R4.2 (x_aI R4.1 a1 (by omega) cous (x_eq C_bit (Ok_e (by rw [qb]; decide) ?_))))
    refine x_gR k2 (G_r7 G) (x_gR k2 (G_r5 G) (x_gO (G_k19 G) ?_))
    refine Ok_b (C_keep G X C.1.2 hl) (fun M11 z => ?_)
    have C1 := w_C_keep C hl z
    obtain ⟨⟨⟨h1, h2⟩, f1, _⟩, _⟩ := z
    have G1 := k_G_eq G h1 h2
    have hl1 : 197 ≤ M11.1.length := by rw [h1]; exact hl
    have k1 := G_k2 G1
    have X1 := C1.1.1.2
    refine x_gR k1 (G_r5 G1) (x_gO X1.1.1.1.2.1.1 ?_)
    refine Ok_b (C_takes (l4 := l4) X1.1.1 (w_hd wh).1 o1 a1 b1 (by omega) (by omega) (by omega) kn) (fun q z => ?_)
    obtain ⟨v14, M15⟩ := q
    obtain ⟨z1, z2, z3⟩ := z
    dsimp only at z1 z2 z3 ⊢
    subst z1
    rw [← hlv, ← hτ] at z3
    have fin : ∀ {w1 : Int32}, w1 = w → goes = false → w_C M15 e σ' ((nx + 1) % 20) (s_sz sz) (s_kp σ sz P) I rc Rr := fun _ g => by
      rw [hσ', if_neg (by rw [g]; decide)]
      exact w_C_nowF C1 hl1 z2 z3 (lo 0 (by decide)) Qτ
    by_cases tk : s_tk σ a o b = true
    · rw [if_pos tk, if_neg (by decide)]
      by_cases c4 : l4 = 0
      · have gf : goes = false := by rw [hg, hlv, decide_eq_false (fun z => z c4)]; simp
        rw [if_pos c4]
        have ew : (1 : Int32) = w := by rw [hw, if_pos tk, if_neg (by rw [gf]; decide)]
        exact Ok_s ⟨ew, fin ew gf⟩
      · have lt : lv = true := by rw [hlv]; exact decide_eq_true c4
        rw [if_neg c4]
        have G5 := k_G_eq G1 z2.1.1.1 z2.1.2
        have k5 := G_k2 G5
        have r11 : M15.2.2.2 2 11 = some e := by rw [z2.1.2]; exact C1.1.1.1
        obtain ⟨⟨ke, _⟩, ⟨⟨js, j1, j2⟩, j3, j4⟩, ⟨r0, r1⟩, r2, r3⟩ := k_XE z3
        have R0 : g_k M15 (e + 1) = (20, 7) ∧ M15.2.2.2 e 0 = some (e + 1) := k_XR (i := 0) z3 (by decide)
        have so : M15.2.1 (e + 1) b = τ (10 + 4 * b) := (z3.2.1.1.2.2.1 b (by rw [lo 1 (by decide)]; omega)).1.1
        have va := (k_Xst z3 (h := a) (by omega) (t := b) (by omega)).2 fk
        refine x_gR k5 (G_r5 G5) (x_gR js r0 (x_aI j1 ix (by omega) va (x_gR k5 r11 (x_gR ke R0.2 (x_aI R0.1 b1 (by omega) so ?_)))))
        by_cases cs : s_va τ a b = τ (10 + 4 * b)
        · have gf : goes = false := by rw [hg, decide_eq_false (fun z => z cs)]; simp
          rw [if_pos cs]
          have ew : (1 : Int32) = w := by rw [hw, if_pos tk, if_neg (by rw [gf]; decide)]
          exact Ok_s ⟨ew, fin ew gf⟩
        · have gt : goes = true := by rw [hg, tk, lt, decide_eq_true cs]; rfl
          rw [if_neg cs]
          refine x_gC k5 ?_
          delta F_X11_spread F_X11_spread_b0
          refine Ok_b (C_spread G5 r11 wh Vτ Qτ o1 a1 b1 (by omega) (by omega) (by omega) (tok tk) g_fuel 0 (l6 := 0) k_Fs_rf z3 rfl (Nat.zero_le _) (n_fu (by omega))) (fun q y => ?_)
          obtain ⟨v23, M24⟩ := q
          obtain ⟨y1, y2, y3⟩ := y
          dsimp only at y1 y2 y3 ⊢
          refine Ok_s ⟨?_, ?_⟩
          · show (1 : Int32) + v23 = w
            rw [hw, if_pos tk, if_pos gt, y1]
          · refine w_C_nowF C1 hl1 (k_Fs_tr z2 y2) ?_ lo' Q'
            rw [hσ', if_pos gt]
            exact y3
    · have gf : goes = false := by rw [hg, b_ff tk]; rfl
      rw [if_neg tk, if_pos rfl]
      have ew : (0 : Int32) = w := by rw [hw, if_neg tk]
      exact Ok_s ⟨ew, fin ew gf⟩
  · have a52 := i_cadd (c := (52 : Int32)) (x := l1) (n := 52) rfl (by omega) (by omega)
    delta F_X12_tell F_X12_tell_b0
    rw [e_gO X1.1, Option.bind_some, E_isHeirX X1, Option.bind_some, if_pos q1, if_neg (by decide), E_isHeirX X1, Option.bind_some, if_pos q2, if_neg (by decide), E_isThingX X1, Option.bind_some, if_pos q3, if_neg (by decide), e_sd X1 (k := 52 + a) (by omega) (by omega)]
    rw [show F_X12_isOf (σ (52 + a)) l2 M1 = some 1 from if_pos qb, Option.bind_some, if_neg (by decide), E_knowsOf X1 a1 b1 (by omega) (by omega), Option.bind_some, if_pos kn, if_neg (by decide)]
    refine Ok_b (E_keep X1.1 X1.2.1 E1.1.1.2 E1.1.2) (fun M9 z => ?_)
    have E9 := w_E_keep E1 z
    have H9 := z.1.1
    have X9 : e_V M9 σ := ⟨H9, E9.1.1.1, V⟩
    have go : ∀ {y : Int32}, y = (if lv = true then s_st σ a b else s_st σ a b / 2) → Ok (F_X12_tell_b81 (some 175) l1 l2 l3 l4 (some 175) l1 l2 l3 y M9) (fun q => q.1 = w ∧ w_E q.2 σ' (s_sz sz) (s_kp σ sz P) I rc Rr) := by
      intro y hy
      delta F_X12_tell_b81 F_X12_tell_b120 F_X12_tell_b121
      rw [e_gO H9, Option.bind_some]
      refine Ok_b (E_takes (w := lv) X9 a1 o1 b1 (by omega) (by omega) (by omega) kn hy) (fun q z => ?_)
      obtain ⟨v2, M3⟩ := q
      obtain ⟨z1, z2, z3⟩ := z
      dsimp only at z1 z2 z3 ⊢
      subst z1
      rw [← hτ] at z3
      have fin : ∀ {w1 : Int32}, w1 = w → goes = false → w_E M3 σ' (s_sz sz) (s_kp σ sz P) I rc Rr := fun _ g => by
        rw [hσ', if_neg (by rw [g]; decide)]
        exact w_E_r E9 z2 (by decide) z3.2.1
      have one0 : (1 : Int32) + 0 = 1 := by decide
      by_cases tk : s_tk σ a o b = true
      · rw [if_pos tk, if_neg (by decide)]
        by_cases c4 : l4 = 0
        · have gf : goes = false := by rw [hg, hlv, decide_eq_false (fun z => z c4)]; simp
          rw [if_pos c4, one0]
          have ew : (1 : Int32) = w := by rw [hw, if_pos tk, if_neg (by rw [gf]; decide)]
          exact Ok_s ⟨ew, fin ew gf⟩
        · have lt : lv = true := by rw [hlv]; exact decide_eq_true c4
          rw [if_neg c4, e_gO z3.1, Option.bind_some, E_valueOf z3 a1 b1 (by omega) (by omega), Option.bind_some, E_thingOf z3 b1 (w := 0) rfl (by omega) (by decide), Option.bind_some, show 10 + 4 * b + 0 = 10 + 4 * b by omega]
          by_cases cs : s_va τ a b = τ (10 + 4 * b)
          · have gf : goes = false := by rw [hg, decide_eq_false (fun z => z cs)]; simp
            rw [if_pos cs, one0]
            have ew : (1 : Int32) = w := by rw [hw, if_pos tk, if_neg (by rw [gf]; decide)]
            exact Ok_s ⟨ew, fin ew gf⟩
          · have gt : goes = true := by rw [hg, tk, lt, decide_eq_true cs]; rfl
            rw [if_neg cs]
            delta F_X12_goesOn F_X12_goesOn_b0
            refine Ok_b (E_goesOn (M0 := M3) Vτ Qτ o1 a1 b1 (by omega) (by omega) (by omega) (tok tk) g_fuel 0 (l6 := 0) (y_rf0 _ _) z3 rfl (Nat.zero_le _) (n_fu (by omega))) (fun q y => ?_)
            obtain ⟨v7, M8⟩ := q
            obtain ⟨y1, y2, y3⟩ := y
            dsimp only at y1 y2 y3 ⊢
            refine Ok_s ⟨?_, ?_⟩
            · show (1 : Int32) + v7 = w
              rw [hw, if_pos tk, if_pos gt, y1]
            · rw [hσ', if_pos gt]
              exact w_E_r E9 (y_tr z2 y2) (by decide) y3.2.1
      · have gf : goes = false := by rw [hg, b_ff tk]; rfl
        rw [if_neg tk, if_pos rfl]
        have ew : (0 : Int32) = w := by rw [hw, if_neg tk]
        exact Ok_s ⟨ew, fin ew gf⟩
    by_cases c4 : l4 = 0
    · have lf : lv = false := by rw [hlv]; exact decide_eq_false (fun z => z c4)
      rw [if_pos c4, e_gC H9, Option.bind_some, E_strengthOf X9 a1 b1 (by omega) (by omega), Option.bind_some]
      exact go (by rw [lf]; rfl)
    · have lt : lv = true := by rw [hlv]; exact decide_eq_true c4
      rw [if_neg c4, e_gC H9, Option.bind_some, E_strengthOf X9 a1 b1 (by omega) (by omega), Option.bind_some]
      exact go (by rw [lt]; rfl)
/-! UNDO -/
def s_un (σ ρ : Nat → Int32) : Nat → Int32 := fun j => if j < 157 then ρ j else σ j
theorem E_undo_go {M0 M : gM} {σ : Nat → Int32} {sz : Nat} {P I : Nat → Nat → Int32} {rc : Nat} {Rr : Nat → List (Nat × Int32) × List (Nat × Nat × Nat)} {w : Int32} (H : y_HT M) (E : w_E M σ sz P I rc Rr) (hw : w.toInt = (sz : Int)) (hs : sz < 20) (hP : ∀ j, j < 157 → M.2.1 187 (157 * sz + j) = P sz j) : Ok (F_X12_undo_L21 g_fuel (some 175) (0 : Int32) M) (fun q => q.1 = w ∧ w_E q.2 (s_un σ (P sz)) sz P I rc Rr) := by
  have z157 : (157 : Int32).toInt = 157 := rfl
  have hz := E.1.1.2
  refine e_cp (di := 185) (si := 187) (db := 0) (sb := 157 * sz) (S := 2 ^ 50) (G := fun n l M => F_X12_undo_L21 n (some 175) l M) (E := fun M => (gI 12 M (some 175) 25).bind fun v1 => some (v1, M)) (M0 := M) ⟨by decide, by decide⟩ (by decide) (by decide) (fun q => by rw [y_c185 (by decide), y_c185 (by decide)]) (fun M1 k H1 hk => ?_) (fun n l k M1 hl hk H1 o => ?_) (fun n l M1 hl => ?_) (fun M1 H1 f1 o1 ol c1 r1 => ?_) g_fuel 0 (l := 0) H (y_rf0 _ _) (fun _ _ => rfl) rfl (fun j hj => absurd hj (Nat.not_lt_zero _)) (fun _ _ => rfl) rfl (Nat.zero_le _) (n_fu (by omega))
  · rw [Nat.zero_add, ← y_t187 sz k hk]
    exact H1.2.1 187 (by decide) _
  · show F_X12_undo_b21 (F_X12_undo_L21 n) (some 175) l M1 = _
    delta F_X12_undo_b21
    have hz1 : (M1.2.1 175 25).toInt = (sz : Int) := by rw [o 175 (by decide)]; exact hz
    have a1 := i_mulL (c := (157 : Int32)) (x := M1.2.1 175 25) (n := 157) rfl (by omega) (by omega)
    have a2 := i_add (x := (157 : Int32) * M1.2.1 175 25) (y := l) (by omega) (by omega)
    have a3 : ((157 : Int32) * M1.2.1 175 25 + l).toNatClampNeg = 157 * sz + k := i_cl (by omega)
    rw [if_neg (fun z => by have := i_le z; omega), e_gR H1 (w := 185) rfl (by decide), Option.bind_some, e_gR H1 (w := 187) rfl (by decide), Option.bind_some, e_gI H1, Option.bind_some, e_aI H1 (t := 20) (i := 187) (n := 3140) rfl (by decide) (by omega) (by omega), Option.bind_some, a3, e_sI H1 (i := 185) (n := 157) rfl (by omega) (by omega), Option.bind_some, i_cl hl, Nat.zero_add]
  · show F_X12_undo_b21 (F_X12_undo_L21 n) (some 175) l M1 = _
    delta F_X12_undo_b21
    rw [if_pos (Int32.le_iff_toInt_le.mpr (by omega))]
  · rw [e_gI H1, Option.bind_some]
    refine Ok_s ⟨?_, w_E_r E f1 (by decide) ?_⟩
    · show M1.2.1 175 25 = w
      rw [o1 175 (by decide)]
      exact Int32.toInt_inj.mp (by omega)
    · funext j
      show M1.2.1 185 j = if j < 157 then P sz j else σ j
      by_cases c : j < 157
      · have := c1 j c
        rw [Nat.zero_add] at this
        rw [if_pos c, this, hP j c]
      · rw [if_neg c, r1 j (by omega), E.1.1.1]
theorem lw9_undo {L : Nat} {M : gM} (R : lw9 L M) : lw_42 L M (F_X11_undo (some 2) M) (F_X12_undo (some 175)) := by
  have R8 := R.1
  have G := R8.2
  have hl := lw8_len R8.1.1.1
  refine lw9_act R (S_X11_undo R8.1.1.1.1.1.1 R8.1.1.1.2.1.1.1) (fun M1 H W => S_X12_undo H) (by decide) (by decide) (by decide) (fun e σ nx sz P I rc Rr C h6 hf => ?_)
  have X := C.1.1.2
  have k2 : g_k M 2 = (11, 0) := k_kd G (by decide)
  have V := X.1.1.2.2
  have wh := X.1.2
  have k19 := G_k19 G
  have k20 : g_k M 20 = (24, 20) := k_kd G (by decide)
  obtain ⟨⟨⟨c1, c2⟩, cn, cs⟩, cP⟩ := C.1.2
  have z0 : (0 : Int32).toInt = 0 := rfl
  by_cases h : sz = 0
  · have e2 : M.2.1 19 2 = 0 := Int32.toInt_inj.mp (by omega)
    refine lw9_nil C (w := -1) ?_ (fun M1 X1 E1 => ?_)
    · delta F_X11_undo F_X11_undo_b0 F_X4_giveBack F_X4_giveBack_b0
      rw [t_gR k2 (G_r7 G), Option.bind_some, t_gR k2 (G_r5 G), Option.bind_some, t_gO k19, Option.bind_some, t_gI k19, Option.bind_some, if_pos e2, Option.bind_some]
      dsimp only
      rw [if_pos rfl]
    · have e25 : M1.2.1 175 25 = 0 := Int32.toInt_inj.mp (by have := E1.1.1.2; omega)
      delta F_X12_undo F_X12_undo_b0
      rw [e_gI X1.1, Option.bind_some, if_pos e25]
  · obtain ⟨n, rfl⟩ : ∃ n, sz = n + 1 := ⟨sz - 1, by omega⟩
    have on : (Int32.ofNat n).toInt = (n : Int) := i_ofNat (by omega)
    refine ⟨Int32.ofNat n, e, s_un σ (P n), (nx + 19) % 20, n, P, I, ?_, fun M1 X1 E1 _ _ => ?_⟩
    · have Xn := cP n (by omega)
      rw [show (nx + 20 - (n + 1) + n) % 20 = (nx + 19) % 20 by omega] at Xn
      have un : (nx + 19) % 20 < 20 := by omega
      have L := k_LS_of G (k_st20 un)
      have a2 := i_subc (x := M.2.1 19 2) (c := (1 : Int32)) (n := 1) rfl (by omega) (by omega)
      have b1 := i_addc (x := M.2.1 19 1) (c := (20 : Int32)) (n := 20) rfl (by omega) (by omega)
      have b2 := i_subc (x := M.2.1 19 1 + (20 : Int32)) (c := (1 : Int32)) (n := 1) rfl (by omega) (by omega)
      have b3 := n_mod (x := M.2.1 19 1 + (20 : Int32) - (1 : Int32)) (k := nx + 19) (by omega)
      have n2 : M.2.1 19 2 - (1 : Int32) = Int32.ofNat n := Int32.toInt_inj.mp (by omega)
      delta F_X11_undo F_X11_undo_b0 F_X4_giveBack F_X4_giveBack_b0
      rw [t_gR k2 (G_r7 G), Option.bind_some, t_gR k2 (G_r5 G), Option.bind_some, t_gO k19, Option.bind_some, t_gI k19, Option.bind_some, if_neg (fun z => by rw [z] at c2; omega), Option.bind_some, t_pI k19, Option.bind_some]
      rw [n2]
      obtain ⟨M3, e3⟩ : ∃ M3, M3 = mI M 19 2 (Int32.ofNat n) := ⟨_, rfl⟩
      rw [← e3]
      have k3 : g_k M3 19 = (4, 0) := by rw [e3]; exact k19
      rw [t_gI k3, Option.bind_some, t_pI k3, Option.bind_some, show M3.2.1 19 1 = M.2.1 19 1 by rw [e3]; exact mI_ne (Or.inr (by decide))]
      obtain ⟨M5, e5⟩ : ∃ M5, M5 = mI M3 19 1 (M.2.1 19 1 + (20 : Int32) - (1 : Int32) - (M.2.1 19 1 + (20 : Int32) - (1 : Int32)) / (20 : Int32) * (20 : Int32)) := ⟨_, rfl⟩
      rw [← e5]
      have F5 : w_F (fun i => i = 19) M M5 := by
        rw [e5]
        refine w_F_t ?_ (w_F_mI rfl)
        rw [e3]
        exact w_F_mI rfl
      have g5 : M5.1 = M.1 := by rw [e5, e3]; rfl
      have r5 : M5.2.2.2 = M.2.2.2 := by rw [e5, e3]; rfl
      have G5 := k_G_eq G g5 r5
      have k5 := G_k19 G5
      have i1 : (M5.2.1 19 1).toInt = (((nx + 19) % 20 : Nat) : Int) := by rw [e5, y_mI1]; exact b3
      have i2 : (M5.2.1 19 2).toInt = (n : Int) := by rw [e5, mI_ne (Or.inr (by decide)), e3, y_mI1]; exact on
      have C5 : w_C M5 e σ ((nx + 19) % 20) n P I rc Rr := by
        have X5 : ∀ {s : Nat} {ρ : Nat → Int32}, s ≠ 19 → (19 < s ∨ s + 4 < 19) → w_X M s e ρ → w_X M5 s e ρ := fun h1 h2 x => w_X_F x F5 (fun j a b z => by omega) (fun j a b z => by unfold w_h at wh; omega)
        refine ⟨⟨⟨by rw [r5]; exact C.1.1.1, X5 (by decide) (by decide) X⟩, ⟨⟨i1, i2⟩, un, by omega⟩, fun i hi => X5 (by omega) (by omega) ?_⟩, w_Ci_F C.2.1 hl F5 (fun i z => by omega), w_Cr_F C.2.2 hl F5 (by rw [(w_FN F5 hl (by decide)).1]) (fun i z => by omega)⟩
        have := cP i (by omega)
        rw [show (nx + 20 - (n + 1) + i) % 20 = ((nx + 19) % 20 + 20 - n + i) % 20 by omega] at this
        exact this
      have hl5 : 197 ≤ M5.1.length := by rw [g5]; exact hl
      have Xn5 : w_X M5 (21 + 5 * ((nx + 19) % 20)) e (P n) := w_X_F Xn F5 (fun j a b z => by omega) (fun j a b z => by unfold w_h at wh; omega)
      have k50 : g_k M5 20 = (24, 20) := k_kd G5 (by decide)
      rw [t_gR k5 (G_r19 G5), Option.bind_some, t_gI k5, Option.bind_some, t_aR (w := some (21 + 5 * ((nx + 19) % 20))) k50 (by omega) (by omega) (by rw [i_cl i1]; exact k_ref20 G5 un), Option.bind_some, t_gO (C5.1.1.2.1.1.1.2.1.1), Option.bind_some]
      obtain ⟨M10, e10, f10, X10⟩ := C_copyX (k_LS_of G5 (s := 9) (by decide)) Xn5 (by omega) (fun i h1 h2 => by unfold w_h at wh; omega)
      rw [e10, Option.bind_some, Option.bind_some]
      dsimp only
      have F10 := w_F_Fs f10
      have G10 := k_G_eq G5 f10.1.1.1 f10.1.2
      rw [if_neg (by decide), t_gR (G_k2 G10) (G_r7 G10), Option.bind_some, t_gI (G_k19 G10), Option.bind_some]
      refine Ok_s ⟨?_, w_C_now C5 hl5 F10 (by rw [f10.1.2]) (by rw [f10.2 2 (by omega)]) (fun i z => by omega) (w_X_congr X10 (fun j hj => if_pos hj))⟩
      show M10.2.1 19 2 = Int32.ofNat n
      rw [f10.2 19 (by omega)]
      exact Int32.toInt_inj.mp (by omega)
    · have z2 := E1.1.1.2
      have s1 := i_subc (x := M1.2.1 175 25) (c := (1 : Int32)) (n := 1) rfl (by omega) (by omega)
      have n2 : M1.2.1 175 25 - (1 : Int32) = Int32.ofNat n := Int32.toInt_inj.mp (by omega)
      delta F_X12_undo F_X12_undo_b0
      rw [e_gI X1.1, Option.bind_some, if_neg (fun z => by rw [z] at z2; omega), Option.bind_some, e_pI X1.1, Option.bind_some, n2]
      obtain ⟨H3, f3⟩ := y_set (M' := mI M1 175 25 (Int32.ofNat n)) (S := 2 ^ 25) X1.1 (i := 175) (k := 25) (by decide) rfl rfl y_mI1 (fun j a hj => y_mI2 hj) rfl (y_in (lo := 0) (hi := 20) rfl (by omega)) (by decide)
      have o3 : ∀ i, i ≠ 175 → (mI M1 175 25 (Int32.ofNat n)).2.1 i = M1.2.1 i := fun i hi => funext (fun q => mI_ne (Or.inl hi))
      have E3 : w_E (mI M1 175 25 (Int32.ofNat n)) σ n P I rc Rr := by
        obtain ⟨⟨⟨a1, a2⟩, a3⟩, a4, a5, a6⟩ := E1
        refine ⟨⟨⟨(o3 185 (by decide)).trans a1, by rw [y_mI1]; exact on⟩, fun i hi j hj => ?_⟩, fun k hk j hj => ?_, by rw [mI_ne (Or.inr (by decide))]; exact a5, fun t ht => r_rl_m (a6 t ht) f3 (by decide)⟩
        · rw [o3 187 (by decide)]
          exact a3 i (by omega) j hj
        · rw [o3 193 (by decide)]
          exact a4 k hk j hj
      exact E_undo_go (M0 := M1) H3 E3 on (by omega) (fun j hj => by rw [o3 187 (by decide)]; exact E1.1.2 n (by omega) j hj)
-- 7za8.small
/-! feed, end, force, seed: all that the rest looks at stands -/
/-- nothing of it moved -/
theorem w_P_F {N : Nat → Prop} {S : Nat} {M M1 M2 : gM} (P : w_P M) (hl : 197 ≤ M.1.length) (hl1 : 197 ≤ M1.1.length) (f : w_F N M M1) (h11 : M1.2.2.2 2 11 = M.2.2.2 2 11) (h12 : M1.2.1 2 12 = M.2.1 2 12)
    (h1 : ∀ i, N i → ((i < 9 ∨ 13 < i) ∧ (i < 19 ∨ i = 20 ∨ 120 < i)) ∧ (i < 125 ∨ (130 < i ∧ i < 151) ∨ (174 < i ∧ i < 197)) ∧ i ≠ 3) (r : ∀ i, y_cs i → M1.2.1 i = M.2.1 i) (f2 : y_Fr S M1 M2) (h : Nat.land S (2 ^ 2 + 2 ^ 25 + 2 ^ 42 + 2 ^ 44 + 2 ^ 45 + 2 ^ 50 + 2 ^ 52 + 2 ^ 58) = 0) : w_P M2 := by
  obtain ⟨e, σ, nx, sz, P, I, rc, Rr, C, E⟩ := P
  have C1 := w_C_F C hl f h11 h12 h1
  have E1 := w_E_c E r
  refine ⟨e, σ, nx, sz, P, I, rc, Rr, w_C_r C1 hl1 f2, w_E_r E1 f2 ?_ ?_⟩
  · have e1 : ∀ j, (2 ^ 2 + 2 ^ 25 + 2 ^ 42 + 2 ^ 44 + 2 ^ 45 + 2 ^ 52 + 2 ^ 58).testBit j = true → (2 ^ 2 + 2 ^ 25 + 2 ^ 42 + 2 ^ 44 + 2 ^ 45 + 2 ^ 50 + 2 ^ 52 + 2 ^ 58).testBit j = true := by
      intro j hj
      have hlt : j < 59 := by
        rcases Nat.lt_or_ge j 59 with q | q
        · exact q
        · rw [Nat.testBit_lt_two_pow (Nat.lt_of_lt_of_le (show (2 ^ 2 + 2 ^ 25 + 2 ^ 42 + 2 ^ 44 + 2 ^ 45 + 2 ^ 52 + 2 ^ 58 : Nat) < 2 ^ 59 by decide) (Nat.pow_le_pow_right (by decide) q))] at hj
          cases hj
      have key : (List.range 59).all (fun j => !((2 ^ 2 + 2 ^ 25 + 2 ^ 42 + 2 ^ 44 + 2 ^ 45 + 2 ^ 52 + 2 ^ 58 : Nat).testBit j) || (2 ^ 2 + 2 ^ 25 + 2 ^ 42 + 2 ^ 44 + 2 ^ 45 + 2 ^ 50 + 2 ^ 52 + 2 ^ 58 : Nat).testBit j) = true := by decide +kernel
      have := List.all_eq_true.mp key j (List.mem_range.mpr hlt)
      rw [hj] at this
      simpa using this
    refine Nat.eq_of_testBit_eq (fun j => ?_)
    have : (S &&& (2 ^ 2 + 2 ^ 25 + 2 ^ 42 + 2 ^ 44 + 2 ^ 45 + 2 ^ 52 + 2 ^ 58)).testBit j = false := by
      rw [Nat.testBit_and]
      by_cases c : (2 ^ 2 + 2 ^ 25 + 2 ^ 42 + 2 ^ 44 + 2 ^ 45 + 2 ^ 52 + 2 ^ 58 : Nat).testBit j = true
      · rw [y_dis h (e1 j c), Bool.false_and]
      · rw [b_ff c, Bool.and_false]
    rw [Nat.zero_testBit]
    exact this
  · rw [funext (fun q => y_fa (i := 185) f2 (by decide) (y_dis h (by decide)) q)]
    exact E1.1.1.1
theorem C_append_F {v : Int32} : ∀ (j fuel : Nat) {s : Int32} {M : gM} {n : Nat}, u_Z M → s.toInt = 8 * (j : Int) - 8 → j ≤ 4 → (M.2.1 131 6).toInt = (n : Int) → n + j ≤ 400 → j < fuel → Ok (F_X9_append_L3 fuel (some 131) v s M) (fun M' => ((M'.1 = M.1 ∧ M'.2.2.2 = M.2.2.2) ∧ ∀ i, ¬ (i = 131 ∨ i = 132) → M'.2.1 i = M.2.1 i) ∧ (M'.2.1 131 6).toInt = ((n + j : Nat) : Int)) := by
  intro j
  induction j with
  | zero =>
    intro fuel s M n Z hs hj hn hb hf
    obtain ⟨fuel, rfl⟩ : ∃ f, fuel = f + 1 := ⟨fuel - 1, by omega⟩
    show Ok (F_X9_append_b3 (F_X9_append_L3 fuel) (some 131) v s M) _
    delta F_X9_append_b3
    rw [if_pos (Int32.lt_iff_toInt_lt.mpr (by have z0 : (0 : Int32).toInt = 0 := rfl; omega))]
    exact Ok_s ⟨⟨⟨rfl, rfl⟩, fun _ _ => rfl⟩, hn⟩
  | succ j ih =>
    intro fuel s M n Z hs hj hn hb hf
    obtain ⟨fuel, rfl⟩ : ∃ f, fuel = f + 1 := ⟨fuel - 1, by omega⟩
    show Ok (F_X9_append_b3 (F_X9_append_L3 fuel) (some 131) v s M) _
    have z0 : (0 : Int32).toInt = 0 := rfl
    have z4 : (400 : Int32).toInt = 400 := rfl
    obtain ⟨⟨k1, k2⟩, r0⟩ := Z
    have Z0 : u_Z M := ⟨⟨k1, k2⟩, r0⟩
    have s32 : sB M (some 132) (M.2.1 131 6) ((v >>> (s &&& 31)).toInt8.toInt32) = some (mI M 132 n (u_b v s)) := by
      unfold sB
      rw [Option.bind_some, if_pos ⟨by rw [k2], by rw [k2]; exact gin_of (by omega) (by omega)⟩, i_cl hn]
      rfl
    have k1' : g_k (mI M 132 n (u_b v s)) 131 = (9, 0) := k1
    have e6 : (mI M 132 n (u_b v s)).2.1 131 6 = M.2.1 131 6 := mI_ne (Or.inl (by decide))
    delta F_X9_append_b3
    rw [if_neg (fun z => by have := i_lt z; omega), t_gI k1, Option.bind_some, if_neg (fun z => by have := i_le z; omega), t_gR k1 r0, Option.bind_some, Option.bind_some, s32, Option.bind_some, t_gI k1', Option.bind_some, t_pI k1', Option.bind_some, e6, n_inc hn (by omega)]
    have a2 := i_addc (x := s) (c := (-8 : Int32)) (n := -8) rfl (by omega) (by omega)
    refine Ok_w (ih fuel (s := s + (-8)) (n := n + 1) (u_Zm (u_Zm Z0)) (by omega) (by omega) (by rw [y_mI1, i_ofNat (by omega)]) (by omega) (by omega)) (fun M' z => ?_)
    obtain ⟨⟨⟨q1, q2⟩, q3⟩, q4⟩ := z
    exact ⟨⟨⟨q1, q2⟩, fun i hi => (q3 i hi).trans ((g_up_ne _ _ _ (fun e => hi (Or.inl e))).trans (g_up_ne _ _ _ (fun e => hi (Or.inr e))))⟩, by rw [q4]; omega⟩
theorem C_appendF {v : Int32} {M : gM} {n : Nat} (Z : u_Z M) (hn : (M.2.1 131 6).toInt = (n : Int)) (hb : n + 4 ≤ 400) : Ok (F_X9_append (some 131) v M) (fun M' => ((M'.1 = M.1 ∧ M'.2.2.2 = M.2.2.2) ∧ ∀ i, ¬ (i = 131 ∨ i = 132) → M'.2.1 i = M.2.1 i) ∧ (M'.2.1 131 6).toInt = ((n + 4 : Nat) : Int)) := by
  delta F_X9_append F_X9_append_b0
  exact C_append_F 4 _ Z rfl (by decide) hn hb (by decide)
theorem C_feedF {v1 v2 v3 v4 v5 : Int32} {M : gM} {n : Nat} (k2 : g_k M 2 = (11, 0)) (r2 : M.2.2.2 2 0 = some 131) (Z : u_Z M) (hn : (M.2.1 131 6).toInt = (n : Int)) (hb : n ≤ 400) : Ok (F_X11_feed (some 2) v1 v2 v3 v4 v5 M) (fun r => (r.2.1 = M.1 ∧ r.2.2.2.2 = M.2.2.2) ∧ ∀ i, ¬ (i = 131 ∨ i = 132) → r.2.2.1 i = M.2.1 i) := by
  have z400 : (400 : Int32).toInt = 400 := rfl
  have a := i_addc (x := M.2.1 131 6) (c := (20 : Int32)) (n := 20) rfl (by omega) (by omega)
  delta F_X11_feed F_X11_feed_b0
  rw [t_gR k2 r2, Option.bind_some, t_gI Z.1.1, Option.bind_some]
  by_cases c : n + 20 ≤ 400
  · rw [if_pos (Int32.le_iff_toInt_le.mpr (by omega)), Option.bind_some, t_gO Z.1.1, Option.bind_some]
    refine Ok_b (C_appendF (v := v1) Z hn (by omega)) (fun M1 z1 => ?_)
    obtain ⟨⟨⟨a1, b1⟩, c1⟩, d1⟩ := z1
    have Z1 := u_Zk Z a1 b1
    have k21 : g_k M1 2 = (11, 0) := (q_k_of a1).trans k2
    have r21 : M1.2.2.2 2 0 = some 131 := by rw [b1]; exact r2
    rw [t_gR k21 r21, Option.bind_some, t_gO Z1.1.1, Option.bind_some]
    refine Ok_b (C_appendF (v := v2) Z1 d1 (by omega)) (fun M2 z2 => ?_)
    obtain ⟨⟨⟨a2, b2⟩, c2⟩, d2⟩ := z2
    have Z2 := u_Zk Z1 a2 b2
    have k22 : g_k M2 2 = (11, 0) := (q_k_of a2).trans k21
    have r22 : M2.2.2.2 2 0 = some 131 := by rw [b2]; exact r21
    rw [t_gR k22 r22, Option.bind_some, t_gO Z2.1.1, Option.bind_some]
    refine Ok_b (C_appendF (v := v3) Z2 d2 (by omega)) (fun M3 z3 => ?_)
    obtain ⟨⟨⟨a3, b3⟩, c3⟩, d3⟩ := z3
    have Z3 := u_Zk Z2 a3 b3
    have k23 : g_k M3 2 = (11, 0) := (q_k_of a3).trans k22
    have r23 : M3.2.2.2 2 0 = some 131 := by rw [b3]; exact r22
    rw [t_gR k23 r23, Option.bind_some, t_gO Z3.1.1, Option.bind_some]
    refine Ok_b (C_appendF (v := v4) Z3 d3 (by omega)) (fun M4 z4 => ?_)
    obtain ⟨⟨⟨a4, b4⟩, c4⟩, d4⟩ := z4
    have Z4 := u_Zk Z3 a4 b4
    have k24 : g_k M4 2 = (11, 0) := (q_k_of a4).trans k23
    have r24 : M4.2.2.2 2 0 = some 131 := by rw [b4]; exact r23
    rw [t_gR k24 r24, Option.bind_some, t_gO Z4.1.1, Option.bind_some]
    refine Ok_b (C_appendF (v := v5) Z4 d4 (by omega)) (fun M5 z5 => ?_)
    obtain ⟨⟨⟨a5, b5⟩, c5⟩, d5⟩ := z5
    have Z5 := u_Zk Z4 a5 b5
    have k25 : g_k M5 2 = (11, 0) := (q_k_of a5).trans k24
    have r25 : M5.2.2.2 2 0 = some 131 := by rw [b5]; exact r24
    rw [t_gR k25 r25, Option.bind_some, t_gI Z5.1.1, Option.bind_some]
    exact Ok_s ⟨⟨a5.trans (a4.trans (a3.trans (a2.trans a1))), b5.trans (b4.trans (b3.trans (b2.trans b1)))⟩, fun i hi => (c5 i hi).trans ((c4 i hi).trans ((c3 i hi).trans ((c2 i hi).trans (c1 i hi))))⟩
  · rw [if_neg (fun z => by have := i_le z; omega)]
    exact Ok_s ⟨⟨rfl, rfl⟩, fun _ _ => rfl⟩
theorem lw9_feed {L : Nat} {v1 v2 v3 v4 v5 : Int32} {M : gM} (R : lw9 L M) : lw_42 L M (F_X11_feed (some 2) v1 v2 v3 v4 v5 M) (F_X12_feed (some 175) v1 v2 v3 v4 v5) := by
  obtain ⟨w, M1, M2, ⟨e1, B1, s1⟩, e2, R2, s2⟩ := lw8_feed (v1 := v1) (v2 := v2) (v3 := v3) (v4 := v4) (v5 := v5) R.1
  have R8 := R.1
  obtain ⟨⟨n1, n2⟩, n4⟩ := lw_n R8.1.1
  obtain ⟨⟨k2, r2⟩, Z⟩ := lw_k2 R8.1.1.1
  obtain ⟨r1, er1, ⟨z1, z2⟩, z3⟩ := C_feedF (v1 := v1) (v2 := v2) (v3 := v3) (v4 := v4) (v5 := v5) k2 r2 Z n2 n4
  have x1 := o_eq er1 e1
  subst x1
  obtain ⟨r2, er2, y2⟩ := S_X12_feed (l1 := v1) (l2 := v2) (l3 := v3) (l4 := v4) (l5 := v5) B1.1.1.2
  have x2 := o_eq er2 e2
  subst x2
  exact ⟨w, M1, M2, ⟨e1, B1, s1⟩, e2, ⟨R2, w_P_F R.2 (lw8_len R8.1.1.1) (lw8_len B1) (w_F_of (N := fun i => i = 131 ∨ i = 132) z1 z2 z3) (by rw [z2]) (by rw [z3 2 (by omega)]) (fun i z => by omega) (fun i hi => z3 i (by unfold y_cs at hi; omega)) y2.2.2 (by decide)⟩, s2⟩
theorem lw9_end {L : Nat} {l : Int32} {M : gM} (R : lw9 L M) : lw_42 L M (F_X11_end (some 2) l M) (F_X12_end (some 175) l) := by
  obtain ⟨w, M1, M2, ⟨e1, B1, s1⟩, e2, R2, s2⟩ := lw8_end (l := l) R.1
  have R8 := R.1
  obtain ⟨⟨k2, r2⟩, Z⟩ := lw_k2 R8.1.1.1
  have E1 := C_end (l := l) k2 r2 Z
  have F : (M1.1 = M.1 ∧ M1.2.2.2 = M.2.2.2) ∧ ∀ i, ¬ i = 131 → M1.2.1 i = M.2.1 i := by
    have x := o_eq E1 e1
    by_cases c : l < 0
    · rw [if_pos c] at x
      cases x
      exact ⟨⟨rfl, rfl⟩, fun _ _ => rfl⟩
    · rw [if_neg c] at x
      by_cases d : l ≤ M.2.1 131 6
      · rw [if_pos d] at x
        cases x
        exact ⟨⟨rfl, rfl⟩, fun i hi => g_up_ne _ _ _ hi⟩
      · rw [if_neg d] at x
        cases x
        exact ⟨⟨rfl, rfl⟩, fun _ _ => rfl⟩
  obtain ⟨r2, er2, y2⟩ := S_X12_end (l1 := l) B1.1.1.2
  have x2 := o_eq er2 e2
  subst x2
  exact ⟨w, M1, M2, ⟨e1, B1, s1⟩, e2, ⟨R2, w_P_F R.2 (lw8_len R8.1.1.1) (lw8_len B1) (w_F_of (N := fun i => i = 131) F.1.1 F.1.2 F.2) (by rw [F.1.2]) (by rw [F.2 2 (by omega)]) (fun i z => by omega) (fun i hi => F.2 i (by unfold y_cs at hi; omega)) y2.2.2 (by decide)⟩, s2⟩
theorem w_F_2 {M : gM} {k : Nat} {v : Int32} : w_F (fun i => i = 2) M (mI M 2 k v) := w_F_mI rfl
theorem lw9_force {L : Nat} {l : Int32} {M : gM} (R : lw9 L M) : lw_42 L M (F_X11_force (some 2) l M) (F_X12_force (some 175) l) := by
  obtain ⟨w, M1, M2, ⟨e1, B1, s1⟩, e2, R2, s2⟩ := lw8_force (l := l) R.1
  have R8 := R.1
  have K := R8.1.1.1.2.1.1.1
  have E1 := C_force (l := l) K.2
  have F : M1 = M ∨ M1 = mI M 2 13 l := by
    have x := o_eq E1 e1
    by_cases c : l < -1
    · rw [if_pos c] at x
      cases x
      exact Or.inl rfl
    · rw [if_neg c] at x
      by_cases d : l < M.2.1 2 12
      · rw [if_pos d] at x
        cases x
        exact Or.inr rfl
      · rw [if_neg d] at x
        cases x
        exact Or.inl rfl
  obtain ⟨r2, er2, y2, _⟩ := S_X12_force (l1 := l) B1.1.1.2 B1.1.2
  have x2 := o_eq er2 e2
  subst x2
  refine ⟨w, M1, M2, ⟨e1, B1, s1⟩, e2, ⟨R2, ?_⟩, s2⟩
  rcases F with F | F <;> subst F
  · exact w_P_F (N := fun i => i = 2) R.2 (lw8_len R8.1.1.1) (lw8_len B1) w_F_r rfl rfl (fun i z => by omega) (fun i hi => rfl) y2.2.2 (by decide)
  · exact w_P_F R.2 (lw8_len R8.1.1.1) (lw8_len B1) w_F_2 rfl (mI_ne (Or.inr (by decide))) (fun i z => by omega) (fun i hi => g_up_ne _ _ _ (by unfold y_cs at hi; omega)) y2.2.2 (by decide)
theorem lw9_seed {L : Nat} {l : Int32} {M : gM} (R : lw9 L M) : lw_42 L M (F_X11_seed (some 2) l M) (F_X12_seed (some 175) l) := by
  obtain ⟨w, M1, M2, ⟨e1, B1, s1⟩, e2, R2, s2⟩ := lw8_seed (l := l) R.1
  have R8 := R.1
  have E1 := S_X11_seed (l1 := l) R8.1.1.1.2.1.1.1
  have F : M1 = M ∨ M1 = mI M 2 14 l := by
    have x := o_eq E1 e1
    by_cases c : 0 ≤ l
    · rw [if_pos c] at x
      cases x
      exact Or.inr rfl
    · rw [if_neg c] at x
      cases x
      exact Or.inl rfl
  obtain ⟨r2, er2, y2⟩ := S_X12_seed (l1 := l) B1.1.1.2
  have x2 := o_eq er2 e2
  subst x2
  refine ⟨w, M1, M2, ⟨e1, B1, s1⟩, e2, ⟨R2, ?_⟩, s2⟩
  rcases F with F | F <;> subst F
  · exact w_P_F (N := fun i => i = 2) R.2 (lw8_len R8.1.1.1) (lw8_len B1) w_F_r rfl rfl (fun i z => by omega) (fun i hi => rfl) y2.1.2 (by decide)
  · exact w_P_F R.2 (lw8_len R8.1.1.1) (lw8_len B1) w_F_2 rfl (mI_ne (Or.inr (by decide))) (fun i z => by omega) (fun i hi => g_up_ne _ _ _ (by unfold y_cs at hi; omega)) y2.1.2 (by decide)
-- 7za9.image
/-! IMAGES, of both -/
theorem t_pR {c i k : Nat} {v : Option Nat} {M : gM} (h : g_k M i = (c, 0)) : pR c M (some i) k v = some (mR M i k v) := by
  unfold pR
  rw [Option.bind_some, if_pos h]
theorem mR_1 {M : gM} {i k : Nat} {v : Option Nat} : (mR M i k v).2.2.2 i k = v := by
  show g_up _ _ _ _ _ _ = _
  unfold g_up
  rw [if_pos rfl, if_pos rfl]
theorem mR_ne {M : gM} {i k j a : Nat} {v : Option Nat} (h : j ≠ i ∨ a ≠ k) : (mR M i k v).2.2.2 j a = M.2.2.2 j a := by
  show g_up _ _ _ _ _ _ = _
  unfold g_up
  by_cases e : j = i
  · subst e
    rw [if_pos rfl, if_neg (fun z => h.elim (fun y => y rfl) (fun y => y z))]
  · rw [if_neg e]
theorem k_G_mR {M : gM} {i k : Nat} {v : Option Nat} (G : k_G M) (h : (f_K i).1 = 3 ∨ q_pR (f_K i) k = false) : k_G (mR M i k v) := by
  refine ⟨G.1, fun j h0 hj h3 a ha => ?_⟩
  rw [mR_ne]
  · exact G.2 j h0 hj h3 a ha
  · by_cases e : j = i
    · subst e
      rcases h with h | h
      · exact absurd h h3
      · exact Or.inr (fun z => by rw [z, h] at ha; cases ha)
    · exact Or.inl e
theorem w_F_mR {N : Nat → Prop} {M : gM} {i k : Nat} {v : Option Nat} (h : N i) : w_F N M (mR M i k v) := ⟨⟨Nat.le_refl _, fun _ _ => rfl⟩, fun j _ hj => ⟨rfl, g_up_ne _ _ _ (fun z => hj (by rw [z]; exact h))⟩⟩
theorem C_imageX {M : gM} {e n : Nat} {σ : Nat → Int32} {nx sz : Nat} {P I : Nat → Nat → Int32} {rc : Nat} {Rr : Nat → List (Nat × Int32) × List (Nat × Nat × Nat)} {l1 : Int32} (G : k_G M) (hl : 197 ≤ M.1.length) (Im : q_Im M) (K : ∀ k, k < 4 → q_Kd M (151 + 6 * k) (3, 0)) (C : w_C M e σ nx sz P I rc Rr) (h1 : l1.toInt = (n : Int)) (hn : n < 4) : Ok (F_X11_image (some 2) l1 M) (fun q => q.1 = σ 4 ∧ w_C q.2 e σ nx sz P (fun k => if k = n then σ else I k) rc Rr) := by
  have k2 := G_k2 G
  have k121 : g_k M 121 = (26, 4) := k_kd G (by decide)
  have z0 : (0 : Int32).toInt = 0 := rfl
  have z4 : (Int32.ofNat 4).toInt = 4 := rfl
  have Kn := (K n hn).2
  have X := C.1.1.2
  have wh := X.1.2
  have Cn := C.2.1 n hn
  delta F_X11_image F_X11_image_b0
  rw [if_neg (fun z => by have := i_lt z; omega), t_gR k2 (G_r8 G), Option.bind_some, t_aN k121 (by decide), Option.bind_some, if_pos (Int32.lt_iff_toInt_lt.mpr (by omega)), Option.bind_some, t_aR (w := some (151 + 6 * n)) k121 (by omega) (by omega) (by rw [i_cl h1]; exact Im.2 n hn), Option.bind_some, t_gR k2 C.1.1.1, Option.bind_some, t_pR Kn, Option.bind_some]
  have G6 : k_G (mR M (151 + 6 * n) 1 (some e)) := k_G_mR G (Or.inl (f_Kim hn))
  have F6 : w_F (fun i => 151 + 6 * n ≤ i ∧ i ≤ 156 + 6 * n) M (mR M (151 + 6 * n) 1 (some e)) := w_F_mR (by omega)
  have r0 : (mR M (151 + 6 * n) 1 (some e)).2.2.2 (151 + 6 * n) 0 = some (152 + 6 * n) := (mR_ne (Or.inr (by decide))).trans Cn.1
  have r1 : (mR M (151 + 6 * n) 1 (some e)).2.2.2 (151 + 6 * n) 1 = some e := mR_1
  have i6 : (mR M (151 + 6 * n) 1 (some e)).2.1 = M.2.1 := rfl
  have g6 : (mR M (151 + 6 * n) 1 (some e)).1 = M.1 := rfl
  have rr6 : ∀ i, i ≠ 151 + 6 * n → (mR M (151 + 6 * n) 1 (some e)).2.2.2 i = M.2.2.2 i := fun i hi => g_up_ne _ _ _ hi
  generalize mR M (151 + 6 * n) 1 (some e) = M6 at G6 F6 r0 r1 i6 g6 rr6 ⊢
  have K6 : g_k M6 (151 + 6 * n) = (3, 0) := (q_k_of g6).trans Kn
  have k26 := G_k2 G6
  have L6 := k_LS_of G6 (k_st4 hn)
  have hl6 : 197 ≤ M6.1.length := by rw [g6]; exact hl
  have X6 : w_X M6 9 e σ := w_X_F X F6 (fun j a b z => by omega) (fun j a b z => by unfold w_h at wh; omega)
  rw [t_gR K6 r0, Option.bind_some, t_gR k26 (G_r5 G6), Option.bind_some, t_gO L6.1.1, Option.bind_some]
  refine Ok_b (C_copyX L6 X6 (by omega) (fun i a b z => by unfold w_h at wh; omega)) (fun M10 z => ?_)
  obtain ⟨f10, X10⟩ := z
  have G10 := k_G_eq G6 f10.1.1.1 f10.1.2
  have k210 := G_k2 G10
  have K10 : g_k M10 (151 + 6 * n) = (3, 0) := (q_k_of f10.1.1.1).trans K6
  have F10 : w_F (fun i => 151 + 6 * n ≤ i ∧ i ≤ 156 + 6 * n) M M10 := w_F_t F6 (w_F_w (w_F_Fs f10) (fun i h => by omega))
  rw [t_gI k210, Option.bind_some, t_pI K10, Option.bind_some]
  obtain ⟨M12, e12⟩ : ∃ M12, M12 = mI M10 (151 + 6 * n) 2 (M10.2.1 2 13) := ⟨_, rfl⟩
  rw [← e12]
  have G12 : k_G M12 := by rw [e12]; exact k_G_eq G10 rfl rfl
  have K12 : g_k M12 (151 + 6 * n) = (3, 0) := by rw [e12]; exact K10
  rw [t_gI (G_k2 G12), Option.bind_some, t_pI K12, Option.bind_some]
  obtain ⟨M14, e14⟩ : ∃ M14, M14 = mI M12 (151 + 6 * n) 3 (M12.2.1 2 14) := ⟨_, rfl⟩
  rw [← e14]
  have G14 : k_G M14 := by rw [e14]; exact k_G_eq G12 rfl rfl
  have Fa : w_F (fun i => i = 151 + 6 * n) M10 M14 := by
    rw [e14]
    refine w_F_t ?_ (w_F_mI rfl)
    rw [e12]
    exact w_F_mI rfl
  have Fx : w_F (fun i => 151 + 6 * n ≤ i ∧ i ≤ 156 + 6 * n) M M14 := w_F_t F10 (w_F_w Fa (fun i h => by omega))
  have X14 : w_X M14 (152 + 6 * n) e σ := w_X_F X10 Fa (fun j a b z => by omega) (fun j a b z => by unfold w_h at wh; omega)
  have rf14 : M14.2.2.2 = M6.2.2.2 := by rw [e14, e12]; exact f10.1.2
  have Xn : w_X M14 9 e σ := w_X_F X Fx (fun j a b z => by omega) (fun j a b z => by unfold w_h at wh; omega)
  rw [t_gR (G_k2 G14) (G_r5 G14), Option.bind_some, t_gI Xn.1.1.1.2.1.1, Option.bind_some]
  refine Ok_s ⟨Xn.1.1.2.1.2.1.1.2, ⟨⟨?_, Xn⟩, w_Cp_F C.1.2 hl wh Fx (fun i z => by omega)⟩, fun k hk => ?_, w_Cr_F C.2.2 hl Fx ?_ (fun i z => by omega)⟩
  · show M14.2.2.2 2 11 = some e
    rw [rf14, rr6 2 (by omega)]
    exact C.1.1.1
  · show M14.2.2.2 (151 + 6 * k) 0 = some (152 + 6 * k) ∧ ∀ ek, M14.2.2.2 (151 + 6 * k) 1 = some ek → w_X M14 (152 + 6 * k) ek (if k = n then σ else I k)
    by_cases c : k = n
    · subst c
      rw [if_pos rfl, rf14]
      refine ⟨r0, fun ek hek => ?_⟩
      rw [r1] at hek
      cases hek
      exact X14
    · rw [if_neg c, rf14, rr6 _ (by omega)]
      have Ck := C.2.1 k hk
      refine ⟨Ck.1, fun ek hek => ?_⟩
      have Xk := Ck.2 ek hek
      have wk := Xk.1.2
      exact w_X_F Xk Fx (fun j a b z => by omega) (fun j a b z => by unfold w_h at wk; omega)
  · show M14.2.1 2 12 = M.2.1 2 12
    rw [(w_FN Fx hl (by omega)).1]
theorem C_backX {M : gM} {e n ek : Nat} {σ : Nat → Int32} {nx sz : Nat} {P I : Nat → Nat → Int32} {rc : Nat} {Rr : Nat → List (Nat × Int32) × List (Nat × Nat × Nat)} {l1 : Int32} (G : k_G M) (hl : 197 ≤ M.1.length) (Im : q_Im M) (K : ∀ k, k < 4 → q_Kd M (151 + 6 * k) (3, 0)) (C : w_C M e σ nx sz P I rc Rr) (h1 : l1.toInt = (n : Int)) (hn : n < 4) (hk : M.2.2.2 (151 + 6 * n) 1 = some ek) : Ok (F_X11_back (some 2) l1 M) (fun q => q.1 = I n 4 ∧ w_C q.2 ek (I n) nx 0 P I rc Rr) := by
  have k2 := G_k2 G
  have k121 : g_k M 121 = (26, 4) := k_kd G (by decide)
  have z0 : (0 : Int32).toInt = 0 := rfl
  have z4 : (Int32.ofNat 4).toInt = 4 := rfl
  have Kn := (K n hn).2
  have Cn := C.2.1 n hn
  have X := Cn.2 ek hk
  have wh := X.1.2
  delta F_X11_back F_X11_back_b0
  rw [if_neg (fun z => by have := i_lt z; omega), t_gR k2 (G_r8 G), Option.bind_some, t_aN k121 (by decide), Option.bind_some, if_pos (Int32.lt_iff_toInt_lt.mpr (by omega)), Option.bind_some, t_aR (w := some (151 + 6 * n)) k121 (by omega) (by omega) (by rw [i_cl h1]; exact Im.2 n hn), Option.bind_some, t_gR Kn hk, Option.bind_some, if_neg (by simp), Option.bind_some, t_pR k2, Option.bind_some]
  have G7 : k_G (mR M 2 11 (some ek)) := k_G_mR G (Or.inr (by have := G.1 2 (by decide) (by decide); rw [k2] at this; rw [← this]; rfl))
  have F7 : w_F (fun i => i = 2) M (mR M 2 11 (some ek)) := w_F_mR rfl
  have r7 : (mR M 2 11 (some ek)).2.2.2 2 11 = some ek := mR_1
  have g7 : (mR M 2 11 (some ek)).1 = M.1 := rfl
  have i7 : (mR M 2 11 (some ek)).2.1 = M.2.1 := rfl
  generalize mR M 2 11 (some ek) = M7 at G7 F7 r7 g7 i7 ⊢
  have K7 : g_k M7 (151 + 6 * n) = (3, 0) := (q_k_of g7).trans Kn
  have r70 : M7.2.2.2 (151 + 6 * n) 0 = some (152 + 6 * n) := by rw [(F7.2 (151 + 6 * n) (by omega) (by omega)).2]; exact Cn.1
  have L7 := k_LS_of G7 (s := 9) (by decide)
  have X7 : w_X M7 (152 + 6 * n) ek (I n) := w_X_F X F7 (fun j a b z => by omega) (fun j a b z => by unfold w_h at wh; omega)
  rw [t_gR (G_k2 G7) (G_r5 G7), Option.bind_some, t_gR K7 r70, Option.bind_some, t_gO L7.1.1, Option.bind_some]
  refine Ok_b (C_copyX L7 X7 (by omega) (fun i a b z => by unfold w_h at wh; omega)) (fun M11 z => ?_)
  obtain ⟨f11, X11⟩ := z
  have G11 := k_G_eq G7 f11.1.1.1 f11.1.2
  have K11 : g_k M11 (151 + 6 * n) = (3, 0) := (q_k_of f11.1.1.1).trans K7
  rw [t_gI K11, Option.bind_some, t_pI (G_k2 G11), Option.bind_some]
  obtain ⟨M13, e13⟩ : ∃ M13, M13 = mI M11 2 13 (M11.2.1 (151 + 6 * n) 2) := ⟨_, rfl⟩
  rw [← e13]
  have G13 : k_G M13 := by rw [e13]; exact k_G_eq G11 rfl rfl
  have K13 : g_k M13 (151 + 6 * n) = (3, 0) := by rw [e13]; exact K11
  rw [t_gI K13, Option.bind_some, t_pI (G_k2 G13), Option.bind_some]
  obtain ⟨M15, e15⟩ : ∃ M15, M15 = mI M13 2 14 (M13.2.1 (151 + 6 * n) 3) := ⟨_, rfl⟩
  rw [← e15]
  have G15 : k_G M15 := by rw [e15]; exact k_G_eq G13 rfl rfl
  rw [t_gR (G_k2 G15) (G_r7 G15), Option.bind_some, t_gO (G_k19 G15), Option.bind_some]
  delta F_X4_clear F_X4_clear_b0
  rw [t_pI (G_k19 G15), Option.bind_some, Option.bind_some]
  obtain ⟨M18, e18⟩ : ∃ M18, M18 = mI M15 19 2 (0 : Int32) := ⟨_, rfl⟩
  rw [← e18]
  have G18 : k_G M18 := by rw [e18]; exact k_G_eq G15 rfl rfl
  have F18 : w_F (fun i => i = 2 ∨ i = 19) M11 M18 := by
    rw [e18]
    refine w_F_t ?_ (w_F_mI (Or.inr rfl))
    rw [e15]
    refine w_F_t ?_ (w_F_mI (Or.inl rfl))
    rw [e13]
    exact w_F_mI (Or.inl rfl)
  have Fx : w_F (fun i => i = 2 ∨ (9 ≤ i ∧ i ≤ 13) ∨ i = 19) M M18 := w_F_t (w_F_w F7 (fun i h => by omega)) (w_F_t (w_F_w (w_F_Fs f11) (fun i h => by omega)) (w_F_w F18 (fun i h => by omega)))
  have X18 : w_X M18 9 ek (I n) := w_X_F X11 F18 (fun j a b z => by omega) (fun j a b z => by unfold w_h at wh; omega)
  have rf18 : M18.2.2.2 = M7.2.2.2 := by rw [e18, e15, e13]; exact f11.1.2
  rw [t_gR (G_k2 G18) (G_r5 G18), Option.bind_some, t_gI X18.1.1.1.2.1.1, Option.bind_some]
  have i19 : M18.2.1 19 2 = 0 := by rw [e18]; exact y_mI1
  have i191 : M18.2.1 19 1 = M.2.1 19 1 := by rw [e18, mI_ne (Or.inr (by decide)), e15, mI_ne (Or.inl (by decide)), e13, mI_ne (Or.inl (by decide)), f11.2 19 (by omega), i7]
  have i212 : M18.2.1 2 12 = M.2.1 2 12 := by rw [e18, mI_ne (Or.inl (by decide)), e15, mI_ne (Or.inr (by decide)), e13, mI_ne (Or.inr (by decide)), f11.2 2 (by omega), i7]
  refine Ok_s ⟨X18.1.1.2.1.2.1.1.2, ⟨⟨?_, X18⟩, ⟨⟨?_, ?_⟩, C.1.2.1.2.1, by omega⟩, fun i hi => absurd hi (Nat.not_lt_zero _)⟩, w_Ci_F C.2.1 hl Fx (fun i z => by omega), w_Cr_F C.2.2 hl Fx i212 (fun i z => by omega)⟩
  · show M18.2.2.2 2 11 = some ek
    rw [rf18]
    exact r7
  · show (M18.2.1 19 1).toInt = _
    rw [i191]
    exact C.1.2.1.1.1
  · show (M18.2.1 19 2).toInt = _
    rw [i19]
    rfl
theorem lw9_image {L : Nat} {l : Int32} {M : gM} (R : lw9 L M) : lw_42 L M (F_X11_image (some 2) l M) (F_X12_image (some 175) l) := by
  have R8 := R.1
  have G := R8.2
  have hl := lw8_len R8.1.1.1
  obtain ⟨w1, w2, M1, M2, ⟨e1, B1, s1⟩, e2, R2, s2⟩ := lw8_image (l := l) R8
  obtain ⟨⟨⟨Q, Y⟩, W⟩, ⟨⟨K, Im⟩, k0⟩, Z⟩ := R8.1.1.1
  have KK := lw_im Q K Im
  obtain ⟨_, e, σ, nx, sz, P, I, rc, Rr, C, E⟩ := R
  by_cases c : 0 ≤ l.toInt ∧ l.toInt ≤ 3
  · obtain ⟨n, hn⟩ : ∃ n : Nat, l.toInt = (n : Int) := ⟨l.toInt.toNat, by omega⟩
    obtain ⟨r1, er1, q1, C1⟩ := C_imageX G hl Im KK C hn (by omega)
    have x1 := o_eq er1 e1
    subst x1
    obtain ⟨r0, er0, _, z0⟩ := S_X11_image (l1 := l) Q K Im
    have x0 := o_eq er0 e1
    subst x0
    obtain ⟨_, f0, _⟩ := z0 c
    have rr := lw_rc f0
    dsimp only at q1 C1 rr
    have E1 := w_E_c E rr
    obtain ⟨r2, er2, ⟨⟨Y2, f2⟩, _⟩, _, z4⟩ := Ok_and (S_X12_image (l1 := l) B1.1.1.2 B1.1.2) (E_image (l1 := l) B1.1.1.2)
    have x2 := o_eq er2 e2
    subst x2
    obtain ⟨⟨v2, a193⟩, _⟩ := z4 n hn (by omega)
    dsimp only at Y2 f2 v2 a193
    have ew : w2 = w1 := by rw [v2, q1, rr 185 (by decide), E.1.1.1]
    subst ew
    refine ⟨w2, M1, M2, ⟨e1, B1, s1⟩, e2, ⟨R2, e, σ, nx, sz, P, _, rc, Rr, w_C_r C1 (lw8_len B1) f2, ?_⟩, s2⟩
    obtain ⟨⟨⟨b1, b2⟩, b3⟩, b4, b5, b6⟩ := E1
    refine ⟨⟨⟨(funext (fun q => y_fa (i := 185) f2 (by decide) (by decide) q)).trans b1, by rw [y_fk (i := 175) (k := 25) f2 (by decide)]; exact b2⟩, fun i hi j hj => (y_fa (i := 187) f2 (by decide) (by decide) _).trans (b3 i hi j hj)⟩, fun k hk j hj => ?_, by rw [y_fk (i := 175) (k := 2) f2 (by decide)]; exact b5, fun t ht => r_rl_m (b6 t ht) f2 (by decide)⟩
    rw [a193]
    show _ = (if k = n then σ else I k) j
    by_cases ck : k = n
    · subst ck
      rw [if_pos (by omega), if_pos rfl, show 157 * k + j - 157 * k = j by omega, b1]
    · rw [if_neg (by omega), if_neg ck]
      exact b4 k hk j hj
  · obtain ⟨r0, er0, z0, _⟩ := S_X11_image (l1 := l) Q K Im
    have x0 := o_eq er0 e1
    subst x0
    have h0 := z0 c
    dsimp only at h0
    subst h0
    obtain ⟨r2, er2, z2, _⟩ := E_image (l1 := l) Y
    have x2 := o_eq er2 e2
    subst x2
    have h2 := z2 c
    cases h2
    have ew : w1 = -1 := by
      have z0' : (0 : Int32).toInt = 0 := rfl
      have k121 : g_k M1 121 = (26, 4) := k_kd G (by decide)
      have z4 : (Int32.ofNat 4).toInt = 4 := rfl
      have h : F_X11_image (some 2) l M1 = some (-1, M1) := by
        delta F_X11_image F_X11_image_b0 F_X11_image_b13
        by_cases d : l < 0
        · rw [if_pos d]
        · have := i_nlt d
          rw [if_neg d, t_gR (G_k2 G) (G_r8 G), Option.bind_some, t_aN k121 (by decide), Option.bind_some, if_neg (fun z => by have := i_lt z; omega)]
      rw [h] at e1
      cases e1
      rfl
    subst ew
    exact ⟨_, _, _, ⟨e1, B1, s1⟩, e2, ⟨R2, e, σ, nx, sz, P, I, rc, Rr, C, E⟩, s2⟩
theorem lw9_back {L : Nat} {l : Int32} {M : gM} (R : lw9 L M) : lw_42 L M (F_X11_back (some 2) l M) (F_X12_back (some 175) l) := by
  have R8 := R.1
  have G := R8.2
  have hl := lw8_len R8.1.1.1
  obtain ⟨w1, w2, M1, M2, ⟨e1, B1, s1⟩, e2, R2, s2⟩ := lw8_back (l := l) R8
  have Gp := R8.1.2
  obtain ⟨⟨⟨Q, Y⟩, W⟩, ⟨⟨K, Im⟩, k0⟩, Z⟩ := R8.1.1.1
  have KK := lw_im Q K Im
  obtain ⟨_, e, σ, nx, sz, P, I, rc, Rr, C, E⟩ := R
  by_cases c : (0 ≤ l.toInt ∧ l.toInt ≤ 3) ∧ M.2.2.2 (151 + 6 * l.toNatClampNeg) 1 ≠ none
  · obtain ⟨n, hn⟩ : ∃ n : Nat, l.toInt = (n : Int) := ⟨l.toInt.toNat, by omega⟩
    have hc : l.toNatClampNeg = n := i_cl hn
    obtain ⟨c1, c2⟩ := c
    have c3 := c2
    rw [hc] at c2
    obtain ⟨ek, hek⟩ : ∃ ek, M.2.2.2 (151 + 6 * n) 1 = some ek := by
      cases h : M.2.2.2 (151 + 6 * n) 1 with
      | none => exact absurd h c2
      | some ek => exact ⟨ek, rfl⟩
    obtain ⟨r1, er1, q1, C1⟩ := C_backX G hl Im KK C hn (by omega) hek
    have x1 := o_eq er1 e1
    subst x1
    obtain ⟨r0, er0, _, z0⟩ := S_X11_back (l1 := l) Q K Im
    have x0 := o_eq er0 e1
    subst x0
    obtain ⟨_, f0, _⟩ := z0 ⟨c1, c3⟩
    have rr := lw_rc (q_Fx_of (a := 151) f0)
    dsimp only at q1 C1 rr
    have E1 := w_E_c E rr
    have m1 : M1.2.1 196 n ≠ 0 := by
      rw [rr 196 (by decide)]
      exact (Gp.2 n (by omega)).1.1.mp c2
    obtain ⟨r2, er2, ⟨⟨Y2, f2⟩, _⟩, _, z4⟩ := Ok_and (S_X12_back (l1 := l) B1.1.1.2 B1.1.2) (E_back (l1 := l) B1.1.1.2 B1.1.2)
    have x2 := o_eq er2 e2
    subst x2
    obtain ⟨⟨v2, a185⟩, _, a25⟩ := z4 n hn (by omega) m1
    dsimp only at Y2 f2 v2 a185 a25
    obtain ⟨⟨⟨b1, b2⟩, b3⟩, b4, b5, b6⟩ := E1
    have ew : w2 = w1 := by rw [v2, q1]; exact b4 n (by omega) 4 (by decide)
    subst ew
    refine ⟨w2, M1, M2, ⟨e1, B1, s1⟩, e2, ⟨R2, ek, s_un σ (I n), nx, 0, P, I, rc, Rr, w_C_congr (w_C_r C1 (lw8_len B1) f2) (fun j hj => if_pos hj), ?_⟩, s2⟩
    refine ⟨⟨⟨funext (fun j => ?_), by rw [a25]; rfl⟩, fun i hi => absurd hi (Nat.not_lt_zero _)⟩, fun k hk j hj => (y_fa (i := 193) f2 (by decide) (by decide) _).trans (b4 k hk j hj), by rw [y_fk (i := 175) (k := 2) f2 (by decide)]; exact b5, fun t ht => r_rl_m (b6 t ht) f2 (by decide)⟩
    rw [a185]
    show _ = if j < 157 then I n j else σ j
    by_cases cj : j < 157
    · rw [if_pos cj, if_pos cj]
      exact b4 n (by omega) j cj
    · rw [if_neg cj, if_neg cj, b1]
  · obtain ⟨r0, er0, z0, _⟩ := S_X11_back (l1 := l) Q K Im
    have x0 := o_eq er0 e1
    subst x0
    have h0 := z0 c
    dsimp only at h0
    subst h0
    have cn : ¬ ((0 ≤ l.toInt ∧ l.toInt ≤ 3) ∧ M1.2.1 196 l.toNatClampNeg ≠ 0) := by
      rintro ⟨d1, d2⟩
      obtain ⟨n, hn⟩ : ∃ n : Nat, l.toInt = (n : Int) := ⟨l.toInt.toNat, by omega⟩
      have hc : l.toNatClampNeg = n := i_cl hn
      rw [hc] at d2
      refine c ⟨d1, ?_⟩
      rw [hc]
      exact (Gp.2 n (by omega)).1.1.mpr d2
    obtain ⟨r2, er2, z2, _⟩ := E_back (l1 := l) Y W
    have x2 := o_eq er2 e2
    subst x2
    have h2 := z2 cn
    cases h2
    have ew : w1 = -1 := by
      have z0' : (0 : Int32).toInt = 0 := rfl
      have k121 : g_k M1 121 = (26, 4) := k_kd G (by decide)
      have z4 : (Int32.ofNat 4).toInt = 4 := rfl
      have h : F_X11_back (some 2) l M1 = some (-1, M1) := by
        delta F_X11_back F_X11_back_b0 F_X11_back_b13
        by_cases d : l < 0
        · rw [if_pos d]
        · have := i_nlt d
          rw [if_neg d, t_gR (G_k2 G) (G_r8 G), Option.bind_some, t_aN k121 (by decide), Option.bind_some]
          by_cases d4 : l < Int32.ofNat 4
          · have d4' := i_lt d4
            obtain ⟨n, hn⟩ : ∃ n : Nat, l.toInt = (n : Int) := ⟨l.toInt.toNat, by omega⟩
            have hc : l.toNatClampNeg = n := i_cl hn
            have nn : M1.2.2.2 (151 + 6 * n) 1 = none := by
              cases h : M1.2.2.2 (151 + 6 * n) 1 with
              | none => rfl
              | some ek => exact absurd ⟨by omega, by rw [hc, h]; simp⟩ c
            rw [if_pos d4, Option.bind_some, t_aR (w := some (151 + 6 * n)) k121 (by omega) (by omega) (by rw [hc]; exact Im.2 n (by omega)), Option.bind_some, t_gR (KK n (by omega)).2 nn, Option.bind_some, if_pos rfl]
          · rw [if_neg d4]
      rw [h] at e1
      cases e1
      rfl
    subst ew
    exact ⟨_, _, _, ⟨e1, B1, s1⟩, e2, ⟨R2, e, σ, nx, sz, P, I, rc, Rr, C, E⟩, s2⟩
-- 7zaa.crule
/-! a RULE of the class, as it stands behind rule() -/
theorem C_copyOf {i n m : Nat} {w : Int32} {M : gM} (K : g_k M i = (20, n)) (hn : n ≤ 400) (hw : w.toInt = (m : Int)) (hm : m ≤ n) : ∃ M', F_J7_copyOf_59c91 (some i) w M = some (some M.1.length, M') ∧ (g_k M' M.1.length = (20, m) ∧ M'.1.length = M.1.length + 1) ∧ (∀ j, j < M.1.length → (g_k M' j = g_k M j ∧ M'.2.1 j = M.2.1 j) ∧ M'.2.2.1 j = M.2.2.1 j ∧ M'.2.2.2 j = M.2.2.2 j) ∧ ∀ k, k < m → M'.2.1 M.1.length k = M.2.1 i k := by
  have hi : i < M.1.length := q_kl (by rw [K]; show 20 < 90; decide)
  have z0 : (0 : Int32).toInt = 0 := rfl
  have on : (Int32.ofNat n).toInt = (n : Int) := i_ofNat (by omega)
  delta F_J7_copyOf_59c91 F_J7_copyOf_59c91_b0
  rw [t_aN K (by decide), Option.bind_some]
  by_cases c : w = Int32.ofNat n
  · have : m = n := by rw [c] at hw; omega
    subst this
    rw [if_pos c]
    unfold clI
    rw [Option.bind_some, if_pos ⟨by rw [K], by rw [K]; exact hn⟩, Option.bind_some]
    refine ⟨_, rfl, ⟨?_, ?_⟩, fun j hj => ⟨⟨?_, g_row_ne _ _ (by omega)⟩, g_row_ne _ _ (by omega), g_row_ne _ _ (by omega)⟩, fun k hk => ?_⟩
    · have := (g_k_app (M := M) (M' := (M.1 ++ [((20 : Nat), (g_k M i).2)], g_row M.2.1 M.1.length (M.2.1 i), g_row M.2.2.1 M.1.length (fun _ => 0), g_row M.2.2.2 M.1.length (fun _ => none))) rfl).2
      rw [K] at this
      rw [K]
      exact this
    · show (M.1 ++ [_]).length = _
      rw [List.length_append]
      rfl
    · exact (g_k_app (M := M) (M' := (M.1 ++ [((20 : Nat), (g_k M i).2)], g_row M.2.1 M.1.length (M.2.1 i), g_row M.2.2.1 M.1.length (fun _ => 0), g_row M.2.2.2 M.1.length (fun _ => none))) rfl).1 j hj
    · show g_row M.2.1 M.1.length (M.2.1 i) M.1.length k = _
      rw [g_row_same]
  · rw [if_neg c]
    unfold nwD
    have cl : w.toNatClampNeg = m := i_cl hw
    rw [if_pos ⟨fun h => by have := i_lt h; omega, by omega⟩, Option.bind_some, cl]
    have K2 : g_k (nw (20, m) M) i = (20, n) := (nw_k hi).trans K
    have kx : g_k (nw (20, m) M) M.1.length = (20, m) := nw_k1
    rw [t_aN K2 (by decide), Option.bind_some]
    have hmin : (if w < Int32.ofNat n then w else Int32.ofNat n) = w := by
      by_cases d : w < Int32.ofNat n
      · rw [if_pos d]
      · have := i_nlt d
        exact absurd (Int32.toInt_inj.mp (by omega)) c
    rw [hmin]
    unfold cpI
    have z0c : (0 : Int32).toNatClampNeg = 0 := rfl
    rw [Option.bind_some, Option.bind_some, if_pos ⟨⟨by rw [K2], by rw [kx]⟩, ⟨⟨by decide, by decide⟩, fun h => by have := i_lt h; omega⟩, by rw [z0c, cl, K2]; show 0 + m ≤ n; omega, by rw [z0c, cl, kx]; show 0 + m ≤ m; omega⟩, Option.bind_some]
    refine ⟨_, rfl, ⟨kx, ?_⟩, fun j hj => ⟨⟨nw_k hj, ?_⟩, ?_, ?_⟩, fun k hk => ?_⟩
    · show (M.1 ++ [_]).length = _
      rw [List.length_append]
      rfl
    · show g_row (nw (20, m) M).2.1 M.1.length _ j = _
      rw [g_row_ne _ _ (by omega)]
      exact g_row_ne _ _ (by omega)
    · exact g_row_ne _ _ (by omega)
    · exact g_row_ne _ _ (by omega)
    · show g_row (nw (20, m) M).2.1 M.1.length (va_cpy ((nw (20, m) M).2.1 i) _ _ _ _) M.1.length k = _
      rw [g_row_same, z0c, cl]
      have e : (nw (20, m) M).2.1 i = M.2.1 i := g_row_ne _ _ (by omega)
      rw [e]
      unfold va_cpy
      simp
      omega
/-- the reader's end: a new Rule -/
theorem C_b55 {T M : gM} {y : sS} {ms : List (Nat × Nat × Nat)} (Z : c_Z T M y ms) (hm : ms.length ≤ 12) (RR : m_R y.2.2 ms) (hl : 197 ≤ M.1.length) : ∃ M', F_X7_read_b55 (some 148) M = some (some M.1.length, M') ∧ k_rl M' M.1.length (M.1.length + 1) (M.1.length + 2) y.2.2 ms ∧ (M.1.length ≤ M'.1.length ∧ ∀ j, j < M.1.length → (g_k M' j = g_k M j ∧ M'.2.1 j = M.2.1 j) ∧ M'.2.2.1 j = M.2.2.1 j ∧ M'.2.2.2 j = M.2.2.2 j) := by
  obtain ⟨X, h4, hK⟩ := Z
  have C := X.1.1
  have hz := z_Cs C
  obtain ⟨⟨⟨k1, k2⟩, k3⟩, ⟨⟨r0, r1⟩, r2⟩⟩ := z_148 (z_CL C)
  have k9 := z_k131 C
  have hlen := X.2.2.1.1
  have hle := X.2.2.2
  have hO := X.2.2.1.2
  delta F_X7_read_b55
  rw [t_gR k1 r0, Option.bind_some, t_gO k9, Option.bind_some, C_faulty k9, Option.bind_some, if_pos X.1.2, if_pos rfl]
  obtain ⟨x, hx⟩ : ∃ x, x = M.1.length := ⟨_, rfl⟩
  rw [← hx]
  obtain ⟨M0, h0⟩ : ∃ M0, M0 = nw (6, 0) M := ⟨_, rfl⟩
  rw [← h0]
  have l0 : M0.1.length = x + 1 := by
    rw [h0, hx]
    show (M.1 ++ [((6 : Nat), (0 : Nat))]).length = _
    rw [List.length_append]
    rfl
  have kx0 : g_k M0 x = (6, 0) := by rw [h0, hx]; exact nw_k1
  have f0 : ∀ j, j < x → (g_k M0 j = g_k M j ∧ M0.2.1 j = M.2.1 j) ∧ M0.2.2.1 j = M.2.2.1 j ∧ M0.2.2.2 j = M.2.2.2 j := fun j hj => by
    rw [h0]
    exact ⟨⟨nw_k (by omega), g_row_ne _ _ (by omega)⟩, g_row_ne _ _ (by omega), g_row_ne _ _ (by omega)⟩
  clear h0
  have a148 := f0 148 (by omega)
  have a149 := f0 149 (by omega)
  have a150 := f0 150 (by omega)
  rw [t_gR (w := some 149) (a148.1.1.trans k1) (by rw [a148.2.2]; exact r1), Option.bind_some, t_gI (a148.1.1.trans k1), Option.bind_some, a148.1.2]
  obtain ⟨M7, e7, ⟨kj, l7⟩, f7, v7⟩ := C_copyOf (i := 149) (n := 400) (m := y.2.2.length) (w := M.2.1 148 3) (M := M0) (a149.1.1.trans k2) (by decide) hlen (by omega)
  rw [e7, Option.bind_some]
  dsimp only
  rw [l0] at e7 kj l7 f7 v7 ⊢
  have b148 := f7 148 (by omega)
  have b150 := f7 150 (by omega)
  rw [t_gR (w := some 150) ((b148.1.1.trans a148.1.1).trans k1) (by rw [b148.2.2, a148.2.2]; exact r2), Option.bind_some, t_gI ((b148.1.1.trans a148.1.1).trans k1), Option.bind_some, b148.1.2, a148.1.2]
  obtain ⟨M11, e11, ⟨kk, l11⟩, f11, v11⟩ := C_copyOf (i := 150) (n := 36) (m := 3 * ms.length) (w := M.2.1 148 4) (M := M7) ((b150.1.1.trans a150.1.1).trans k3) (by decide) h4 (by omega)
  rw [e11, Option.bind_some]
  dsimp only
  rw [l7] at e11 kk l11 f11 v11 ⊢
  have kx : g_k M11 x = (6, 0) := ((f11 x (by omega)).1.1.trans (f7 x (by omega)).1.1).trans kx0
  delta F_X6_init F_X6_init_b0
  have kx2 : g_k (mR M11 x 0 (some (x + 1))) x = (6, 0) := kx
  rw [t_pR kx, Option.bind_some, t_pR kx2, Option.bind_some, Option.bind_some]
  obtain ⟨Mx, ex⟩ : ∃ Mx, Mx = mR (mR M11 x 0 (some (x + 1))) x 1 (some (x + 1 + 1)) := ⟨_, rfl⟩
  rw [← ex]
  have gx : ∀ j, g_k Mx j = g_k M11 j := fun j => by rw [ex]; rfl
  have ix : Mx.2.1 = M11.2.1 := by rw [ex]; rfl
  have rx : ∀ j, j ≠ x → Mx.2.2.2 j = M11.2.2.2 j := fun j hj => by rw [ex]; exact (g_up_ne _ _ _ hj).trans (g_up_ne _ _ _ hj)
  have j11 := f11 (x + 1) (by omega)
  refine ⟨Mx, rfl, ⟨⟨(gx x).trans kx, ?_, ?_⟩, ⟨⟨?_, ?_⟩, by omega, by omega⟩, ⟨⟨?_, ?_⟩, by omega, hm⟩, RR⟩, ?_, fun j hj => ⟨⟨?_, ?_⟩, ?_, ?_⟩⟩
  · rw [ex, mR_ne (Or.inr (by decide))]
    exact mR_1
  · rw [ex]
    exact mR_1
  · rw [gx, j11.1.1]
    exact kj
  · rw [gx]
    exact kk
  · rw [ix, j11.1.2]
    refine m_L_f (m_c_O hO) (fun j h1 h2 => ?_)
    rw [v7 j (by omega), a149.1.2]
  · rw [ix]
    refine c_K_c (fun q hq => ?_) hK
    rw [v11 q hq, b150.1.2, a150.1.2]
  · have : Mx.1 = M11.1 := by rw [ex]; rfl
    rw [this]
    omega
  · rw [gx, (f11 j (by omega)).1.1, (f7 j (by omega)).1.1]
    exact (f0 j hj).1.1
  · rw [ix, (f11 j (by omega)).1.2, (f7 j (by omega)).1.2]
    exact (f0 j hj).1.2
  · have : Mx.2.2.1 = M11.2.2.1 := by rw [ex]; rfl
    rw [this, (f11 j (by omega)).2.1, (f7 j (by omega)).2.1]
    exact (f0 j hj).2.1
  · rw [rx j (by omega), (f11 j (by omega)).2.2, (f7 j (by omega)).2.2]
    exact (f0 j hj).2.2
theorem t_sR25 {i n y : Nat} {j : Int32} {M : gM} (h : g_k M i = (25, n)) (hy : g_k M y = (6, 0)) (h0 : 0 ≤ j.toInt) (h1 : j.toInt < (n : Int)) : sR 25 M (some i) j (some y) = some (mR M i j.toNatClampNeg (some y)) := by
  unfold sR
  rw [Option.bind_some, Option.bind_some, if_pos ⟨⟨by rw [h], by rw [h]; exact gin_of h0 h1⟩, hy⟩]
/-- rule(), of the class: what it leaves -/
def w_Nr (i : Nat) : Prop := i = 131 ∨ (133 ≤ i ∧ i ≤ 135) ∨ (148 ≤ i ∧ i ≤ 150)
theorem z_Fr_F {M M' : gM} (f : z_Fr M M') : w_F w_Nr M M' := w_F_of f.1.1 f.1.2.2 (fun i hi => funext (fun k => f.2 i k (by unfold z_W; unfold w_Nr at hi; omega)))
theorem C_ruleX {T M : gM} {rc : Nat} (G : k_G M) (hl : 197 ≤ M.1.length) (Z : z_T T M) (hr : (M.2.1 2 12).toInt = (rc : Int)) (h6 : rc < 6) : Ok (F_X11_rule (some 2) M) (fun r => match s_text T with
    | .inl _ => w_F w_Nr M r.2
    | .inr (y, ms) => (∃ M1, w_F w_Nr M M1 ∧ w_F (fun i => i = 2 ∨ i = 3) M1 r.2 ∧ M.1.length ≤ M1.1.length) ∧ (r.2.2.2.2 2 11 = M.2.2.2 2 11 ∧ (r.2.2.1 2 12).toInt = ((rc + 1 : Nat) : Int)) ∧ (∀ t, t ≠ rc → r.2.2.2.2 3 t = M.2.2.2 3 t) ∧ ∃ j js jm, r.2.2.2.2 3 rc = some j ∧ (196 < j ∧ 196 < js ∧ 196 < jm) ∧ k_rl r.2 j js jm y.2.2 ms) := by
  have k2 := G_k2 G
  have k3 : g_k M 3 = (25, 6) := k_kd G (by decide)
  have z6 : (Int32.ofNat 6).toInt = 6 := rfl
  delta F_X11_rule F_X11_rule_b0
  rw [t_gI k2, Option.bind_some, t_gR k2 (G_r3 G), Option.bind_some, t_aN k3 (by decide), Option.bind_some, if_pos (Int32.lt_iff_toInt_lt.mpr (by omega)), t_gR k2 (G_r2 G), Option.bind_some]
  obtain ⟨Mk, c1, c2, c3⟩ := C_read Z
  have k148 := (z_148 Z.1.1).1.1.1
  rw [t_gO k148, Option.bind_some, c1]
  have Gk := k_G_eq G c2.1.1 c2.1.2.2
  have Fk := z_Fr_F c2
  have hlk : 197 ≤ Mk.1.length := by rw [c2.1.1]; exact hl
  cases hit : s_text T with
  | inl e =>
    rw [hit] at c3
    obtain ⟨Y, nm, h4, hn4⟩ := c3
    obtain ⟨p, C⟩ := Y.1
    obtain ⟨⟨⟨k1, _⟩, _⟩, ⟨⟨r0, r1⟩, _⟩⟩ := z_148 (z_CL C)
    have k9 := z_k131 C
    delta F_X7_read_b55
    rw [t_gR k1 r0, Option.bind_some, t_gO k9, Option.bind_some, C_faulty k9, Option.bind_some, if_neg (c_Yn Y), if_neg (by decide), Option.bind_some]
    dsimp only
    rw [t_gR (G_k2 Gk) (G_r0 Gk), Option.bind_some, t_pI k9, Option.bind_some]
    have g2 : g_k (mI Mk 131 6 (0 : Int32)) 2 = (11, 0) := G_k2 Gk
    have g9 : g_k (mI Mk 131 6 (0 : Int32)) 131 = (9, 0) := k9
    rw [if_pos rfl, t_gR g2 (G_r0 Gk), Option.bind_some, t_gI g9, Option.bind_some]
    exact Ok_s (w_F_t Fk (w_F_mI (Or.inl rfl)))
  | inr yms =>
    obtain ⟨y, ms⟩ := yms
    rw [hit] at c3
    obtain ⟨Z2, hms⟩ := c3
    obtain ⟨RR, _⟩ := m_text hit
    obtain ⟨M7, e7, K7, l7, f7⟩ := C_b55 Z2 hms RR hlk
    rw [e7, Option.bind_some]
    dsimp only
    have F7 : w_F w_Nr Mk M7 := ⟨⟨l7, fun j hj => (f7 j hj).1.1⟩, fun j hj _ => ⟨(f7 j hj).1.2, (f7 j hj).2.2⟩⟩
    have a2 := f7 2 (by omega)
    have a3 := f7 3 (by omega)
    have a131 := f7 131 (by omega)
    have g2 : g_k M7 2 = (11, 0) := a2.1.1.trans (G_k2 Gk)
    have g3 : g_k M7 3 = (25, 6) := a3.1.1.trans (k_kd Gk (by decide))
    have g131 : g_k M7 131 = (9, 0) := a131.1.1.trans (k_kd Gk (by decide))
    have r20 : M7.2.2.2 2 0 = some 131 := by rw [a2.2.2]; exact G_r0 Gk
    have r23 : M7.2.2.2 2 3 = some 3 := by rw [a2.2.2]; exact G_r3 Gk
    have i12 : M7.2.1 2 12 = M.2.1 2 12 := by rw [a2.1.2]; exact c2.2 2 12 (by unfold z_W; omega)
    have r3 : ∀ t, M7.2.2.2 3 t = M.2.2.2 3 t := fun t => by rw [a3.2.2, c2.1.2.2]
    have r211 : M7.2.2.2 2 11 = M.2.2.2 2 11 := by rw [a2.2.2, c2.1.2.2]
    rw [t_gR g2 r20, Option.bind_some, t_pI g131, Option.bind_some, if_neg (by simp)]
    obtain ⟨M9, e9⟩ : ∃ M9, M9 = mI M7 131 6 (0 : Int32) := ⟨_, rfl⟩
    rw [← e9]
    have F9 : w_F w_Nr M M9 := by
      rw [e9]
      exact w_F_t Fk (w_F_t F7 (w_F_mI (Or.inl rfl)))
    have o9 : ∀ i, i ≠ 131 → M9.2.1 i = M7.2.1 i := fun i hi => by rw [e9]; exact g_up_ne _ _ _ hi
    have g9 : ∀ i, g_k M9 i = g_k M7 i := fun i => by rw [e9]; rfl
    have rf9 : M9.2.2.2 = M7.2.2.2 := by rw [e9]; rfl
    have l9 : M.1.length ≤ M9.1.length := F9.1.1
    have K9 := k_rl_m (M' := M9) K7 (by rw [e9]; rfl) rf9 (o9 _ (by omega)) (o9 _ (by omega))
    have kx := K9.1.1
    clear e9
    rw [t_gR (w := some 3) ((g9 2).trans g2) (by rw [rf9]; exact r23), Option.bind_some, t_gI ((g9 2).trans g2), Option.bind_some, o9 2 (by decide), i12, t_sR25 ((g9 3).trans g3) kx (by omega) (by omega), Option.bind_some, i_cl hr]
    obtain ⟨x, hx⟩ : ∃ x, x = Mk.1.length := ⟨_, rfl⟩
    rw [← hx] at K9 kx hlk ⊢
    obtain ⟨M12, e12⟩ : ∃ M12, M12 = mR M9 3 rc (some x) := ⟨_, rfl⟩
    rw [← e12]
    have g12 : ∀ i, g_k M12 i = g_k M9 i := fun i => by rw [e12]; rfl
    have i12' : M12.2.1 = M9.2.1 := by rw [e12]; rfl
    rw [t_gI ((g12 2).trans ((g9 2).trans g2)), Option.bind_some, i12', o9 2 (by decide), i12, t_pI ((g12 2).trans ((g9 2).trans g2)), Option.bind_some]
    obtain ⟨M14, e14⟩ : ∃ M14, M14 = mI M12 2 12 (M.2.1 2 12 + (1 : Int32)) := ⟨_, rfl⟩
    rw [← e14]
    have g14 : ∀ i, g_k M14 i = g_k M12 i := fun i => by rw [e14]; rfl
    rw [t_gI ((g14 2).trans ((g12 2).trans ((g9 2).trans g2))), Option.bind_some]
    have F14 : w_F (fun i => i = 2 ∨ i = 3) M9 M14 := by
      rw [e14]
      refine w_F_t ?_ (w_F_mI (Or.inl rfl))
      rw [e12]
      exact w_F_mR (Or.inr rfl)
    have rr : M14.2.2.2 = M12.2.2.2 := by rw [e14]; rfl
    have a1 := i_addc (x := M.2.1 2 12) (c := (1 : Int32)) (n := 1) rfl (by omega) (by omega)
    refine Ok_s ⟨⟨M9, F9, F14, l9⟩, ⟨?_, ?_⟩, fun t ht => ?_, x, x + 1, x + 2, ?_, ⟨by omega, by omega, by omega⟩, ?_⟩
    · show M14.2.2.2 2 11 = _
      rw [rr, e12, mR_ne (Or.inl (by decide)), rf9]
      exact r211
    · show (M14.2.1 2 12).toInt = _
      rw [e14, y_mI1]
      omega
    · show M14.2.2.2 3 t = _
      rw [rr, e12, mR_ne (Or.inr ht), rf9]
      exact r3 t
    · show M14.2.2.2 3 rc = _
      rw [rr, e12]
      exact mR_1
    · have q1 : M14.2.2.2 x = M9.2.2.2 x := by rw [rr, e12]; exact g_up_ne _ _ _ (by omega)
      have q2 : ∀ i, i ≠ 2 → M14.2.1 i = M9.2.1 i := fun i hi => by rw [e14, ← i12']; exact g_up_ne _ _ _ hi
      unfold k_rl at K9 ⊢
      rw [(g14 _).trans (g12 _), (g14 _).trans (g12 _), (g14 _).trans (g12 _), q1, q2 _ (by omega), q2 _ (by omega)]
      exact K9
