/-! TELL, UNDO, of both -/
theorem is_01 {a v : Int32} {k : Nat} (h : v.toInt = (k : Int)) (hk : k ≤ 9) : hs_is a v = 0 ∨ hs_is a v = 1 := by
  rw [is_get h hk]
  split
  · exact Or.inr rfl
  · exact Or.inl rfl
theorem td_lo {σ : Nat → Int32} {f o t j : Nat} {w : Bool} (hj : j < 59) : s_td σ f o t w j = σ j := by
  unfold s_td
  split
  · exact kw_lo hj
  · rfl
theorem td_V {σ : Nat → Int32} {f o t : Nat} {w : Bool} (V : s_V σ) (hf : f < hs_m σ) (ht : t < 7) (k : s_kn σ f t = true) : s_V (s_td σ f o t w) := by
  unfold s_td
  split
  · have kv := s_kn1 V hf ht k
    exact kw_V V ht (s_tw_r V hf ht k).2 (fun _ => kv.1)
  · exact V
theorem td_Q {σ : Nat → Int32} {f o t : Nat} {w : Bool} (Q : s_Q σ) : s_Q (s_td σ f o t w) := by
  unfold s_td
  split
  · exact s_Q_kw Q
  · exact Q
/-- who tells knows it still, as before -/
theorem td_from {σ : Nat → Int32} {f o t : Nat} {w : Bool} (ht : t < 7) : s_va (s_td σ f o t w) f t = s_va σ f t ∧ s_st (s_td σ f o t w) f t = s_st σ f t := by
  unfold s_td
  by_cases c : s_tk σ f o t = true
  · rw [if_pos c]
    have c' := of_decide_eq_true c
    have ne : f ≠ o := fun e => by rw [e] at c'; omega
    exact kw_ne ht ht (Or.inl ne)
  · rw [if_neg c]
    exact ⟨rfl, rfl⟩
/-- who took it knows it -/
theorem td_to {σ : Nat → Int32} {f o t : Nat} {w : Bool} (V : s_V σ) (hf : f < hs_m σ) (ht : t < 7) (k : s_kn σ f t = true) (c : s_tk σ f o t = true) : s_kn (s_td σ f o t w) o t = true := by
  have kv := s_kn1 V hf ht k
  have r := s_tw_r (w := w) V hf ht k
  unfold s_td s_kn
  rw [if_pos c, kw_v.1, if_neg (fun z => by have := i_le z; have z0 : (0 : Int32).toInt = 0 := rfl; omega)]
  exact decide_eq_true kv.1.1
theorem td_nm {σ : Nat → Int32} {f o t : Nat} {w : Bool} : hs_n (s_td σ f o t w) = hs_n σ ∧ hs_m (s_td σ f o t w) = hs_m σ := nm_of (fun _ hj => td_lo (by omega))
/-- it goes on to three: the cells, how many took it, how many were asked -/
def s_sp (σ : Nat → Int32) (f wo t : Nat) : Nat → (Nat → Int32) × (Nat × Nat)
  | 0 => (σ, 0, 0)
  | h + 1 => if 3 ≤ (s_sp σ f wo t h).2.2 then s_sp σ f wo t h else if h = wo ∨ hs_is (σ (52 + f)) (Int32.ofNat h) ≠ 1 then s_sp σ f wo t h else (s_td (s_sp σ f wo t h).1 f h t false, (if s_tk (s_sp σ f wo t h).1 f h t = true then (s_sp σ f wo t h).2.1 + 1 else (s_sp σ f wo t h).2.1), (s_sp σ f wo t h).2.2 + 1)
theorem sp_succ {σ : Nat → Int32} {f wo t h : Nat} : s_sp σ f wo t (h + 1) = if 3 ≤ (s_sp σ f wo t h).2.2 then s_sp σ f wo t h else if h = wo ∨ hs_is (σ (52 + f)) (Int32.ofNat h) ≠ 1 then s_sp σ f wo t h else (s_td (s_sp σ f wo t h).1 f h t false, (if s_tk (s_sp σ f wo t h).1 f h t = true then (s_sp σ f wo t h).2.1 + 1 else (s_sp σ f wo t h).2.1), (s_sp σ f wo t h).2.2 + 1) := rfl
theorem sp_3 {σ : Nat → Int32} {f wo t h : Nat} (c : 3 ≤ (s_sp σ f wo t h).2.2) : ∀ k, s_sp σ f wo t (h + k) = s_sp σ f wo t h := by
  intro k
  induction k with
  | zero => rfl
  | succ k ih =>
    show s_sp σ f wo t ((h + k) + 1) = _
    rw [sp_succ, ih, if_pos c]
theorem sp_i {σ : Nat → Int32} {f wo t : Nat} (V : s_V σ) (Q : s_Q σ) (hf : f < hs_m σ) (ht : t < 7) (k : s_kn σ f t = true) : ∀ h, h ≤ hs_m σ → ((s_V (s_sp σ f wo t h).1 ∧ s_Q (s_sp σ f wo t h).1) ∧ (s_kn (s_sp σ f wo t h).1 f t = true ∧ ∀ j, j < 59 → (s_sp σ f wo t h).1 j = σ j)) ∧ (s_sp σ f wo t h).2.1 ≤ h ∧ (s_sp σ f wo t h).2.2 ≤ 3 := by
  intro h
  induction h with
  | zero => intro _; exact ⟨⟨⟨V, Q⟩, k, fun _ _ => rfl⟩, Nat.le_refl _, Nat.zero_le _⟩
  | succ h ih =>
    intro hh
    obtain ⟨⟨⟨a1, a2⟩, a3, a4⟩, a5, a6⟩ := ih (by omega)
    have nm := nm_of (σ := σ) (σ' := (s_sp σ f wo t h).1) (fun j hj => a4 j (by omega))
    rw [sp_succ]
    by_cases c : 3 ≤ (s_sp σ f wo t h).2.2
    · rw [if_pos c]
      exact ⟨⟨⟨a1, a2⟩, a3, a4⟩, by omega, a6⟩
    rw [if_neg c]
    by_cases d : h = wo ∨ hs_is (σ (52 + f)) (Int32.ofNat h) ≠ 1
    · rw [if_pos d]
      exact ⟨⟨⟨a1, a2⟩, a3, a4⟩, by omega, a6⟩
    rw [if_neg d]
    refine ⟨⟨⟨td_V a1 (by omega) ht a3, td_Q a2⟩, ?_, fun j hj => (td_lo hj).trans (a4 j hj)⟩, ?_, by show (s_sp σ f wo t h).2.2 + 1 ≤ 3; omega⟩
    · exact (kn_of (td_from ht).1).trans a3
    · show (if s_tk (s_sp σ f wo t h).1 f h t = true then (s_sp σ f wo t h).2.1 + 1 else (s_sp σ f wo t h).2.1) ≤ h + 1
      split <;> omega
theorem i_n1 (k : Nat) (h : k ≤ 100) : Int32.ofNat k + (1 : Int32) = Int32.ofNat (k + 1) := n_inc (i_ofNat (by omega)) (by omega)
theorem C_spread {M0 : gM} {e f wo t : Nat} {σ : Nat → Int32} {l1 l2 l3 : Int32} (G : k_G M0) (e11 : M0.2.2.2 2 11 = some e) (wh : w_h e) (V : s_V σ) (Q : s_Q σ) (h1 : l1.toInt = (f : Int)) (h2 : l2.toInt = (wo : Int)) (h3 : l3.toInt = (t : Int)) (hf : f < hs_m σ) (hw : wo < hs_m σ) (ht : t < hs_n σ) (k : s_kn σ f t = true) : ∀ (n h : Nat) {l6 : Int32} {M : gM}, k_Fs 9 M0 M → k_X M 9 e (s_sp σ f wo t h).1 → l6.toInt = (h : Int) → h ≤ hs_m σ → hs_m σ - h < n → Ok (F_X11_spread_L9 n (some 2) l1 l2 l3 (Int32.ofNat (s_sp σ f wo t h).2.1) (Int32.ofNat (s_sp σ f wo t h).2.2) l6 M) (fun q => q.1 = Int32.ofNat (s_sp σ f wo t (hs_m σ)).2.1 ∧ k_Fs 9 M0 q.2 ∧ k_X q.2 9 e (s_sp σ f wo t (hs_m σ)).1) := by
  have nn := s_Vn V
  intro n
  induction n with
  | zero => intro h l6 M F X h6 hh hn; omega
  | succ n ih =>
    intro h l6 M F X h6 hh hn
    obtain ⟨⟨⟨a1, a2⟩, a3, a4⟩, a5, a6⟩ := sp_i (wo := wo) V Q hf (by omega) k h hh
    have nm := nm_of (σ := σ) (σ' := (s_sp σ f wo t h).1) (fun j hj => a4 j (by omega))
    obtain ⟨⟨ke, ⟨e6, e7⟩, _⟩, ⟨⟨ks, _⟩, _⟩, _⟩ := k_XE X
    have GM := k_G_eq G F.1.1.1 F.1.2
    have k2 := G_k2 GM
    have r11 : M.2.2.2 2 11 = some e := by rw [F.1.2]; exact e11
    have R4 : g_k M (e + 5) = (20, 7) ∧ M.2.2.2 e 4 = some (e + 5) := k_XR (i := 4) X (by decide)
    have cous : M.2.1 (e + 5) f = σ (52 + f) := by
      have := (X.2.1.1.2.2.2 f (by rw [a4 2 (by decide)]; omega)).2
      rw [a4 _ (by omega)] at this
      exact this
    have z3 : (3 : Int32).toInt = 3 := rfl
    have o3 : (Int32.ofNat (s_sp σ f wo t h).2.2).toInt = ((s_sp σ f wo t h).2.2 : Int) := i_ofNat (by omega)
    have e2 : (s_sp σ f wo t h).1 2 = σ 2 := a4 2 (by decide)
    show Ok (F_X11_spread_b9 (F_X11_spread_L9 n) (some 2) l1 l2 l3 _ _ l6 M) _
    delta F_X11_spread_b9 F_X11_spread_b78 F_X11_spread_b72
    refine x_gR k2 r11 (x_gI ke (e7.trans e2) ?_)
    have c0 := i_le_n h6 nn.2.1
    by_cases c : hs_m σ ≤ h
    · have : h = hs_m σ := by omega
      subst this
      rw [if_pos (c0.mpr c)]
      exact Ok_s ⟨rfl, F, X⟩
    rw [if_neg (mt c0.mp c)]
    have ih' := fun (M : gM) => ih (h + 1) (l6 := l6 + 1) (M := M)
    rw [sp_succ] at ih'
    have l6n : l6 = Int32.ofNat h := i_nt h6 (by omega)
    by_cases d : 3 ≤ (s_sp σ f wo t h).2.2
    · rw [if_pos (Int32.le_iff_toInt_le.mpr (by omega))]
      have e3 := sp_3 d (hs_m σ - h)
      rw [show h + (hs_m σ - h) = hs_m σ by omega] at e3
      rw [e3]
      exact Ok_s ⟨rfl, F, X⟩
    rw [if_neg (fun z => by have := i_le z; omega)]
    rw [if_neg d] at ih'
    by_cases w : l6 = l2
    · have : h = wo := by rw [w] at h6; omega
      rw [if_pos w]
      rw [if_pos (Or.inl this)] at ih'
      exact ih' _ F X (i_nx h6 (by omega)) (by omega) (by omega)
    have hwo : h ≠ wo := fun z => w (Int32.toInt_inj.mp (by omega))
    rw [if_neg w]
    refine x_gR k2 r11 (x_gR ke R4.2 (x_aI R4.1 h1 (by omega) cous (x_eq C_bit ?_)))
    by_cases b : hs_is (σ (52 + f)) l6 = 1
    · rw [if_pos b]
      rw [if_neg (by rw [← l6n]; exact fun z => z.elim hwo (fun y => y b))] at ih'
      refine x_gR k2 (G_r5 GM) (x_gO ks ?_)
      refine Ok_b (C_takes (l4 := 0) X (w_hd wh).1 h6 h1 h3 (by omega) (by omega) (by omega) a3) (fun q z => ?_)
      obtain ⟨v9, M10⟩ := q
      obtain ⟨z1, z2, z3⟩ := z
      dsimp only at z1 z2 z3 ⊢
      subst z1
      rw [show decide ((0 : Int32) ≠ 0) = false from rfl] at z3
      have go := ih' _ (k_Fs_tr F z2) z3 (i_nx h6 (by omega)) (by omega) (by omega)
      dsimp only at go
      have i1 : Int32.ofNat (s_sp σ f wo t h).2.2 + (1 : Int32) = Int32.ofNat ((s_sp σ f wo t h).2.2 + 1) := i_n1 _ (by omega)
      have i2 : Int32.ofNat (s_sp σ f wo t h).2.1 + (1 : Int32) = Int32.ofNat ((s_sp σ f wo t h).2.1 + 1) := i_n1 _ (by omega)
      by_cases tk : s_tk (s_sp σ f wo t h).1 f h t = true
      · rw [if_pos tk, if_neg (by decide)]
        rw [if_pos tk] at go
        rw [i1, i2]
        exact go
      · rw [if_neg tk, if_pos rfl]
        rw [if_neg tk] at go
        rw [i1]
        exact go
    · rw [if_neg b]
      rw [if_pos (Or.inr (by rw [← l6n]; exact b))] at ih'
      exact ih' _ F X (i_nx h6 (by omega)) (by omega) (by omega)
theorem E_goesOn {M0 : gM} {f wo t : Nat} {σ : Nat → Int32} {l1 l2 l3 : Int32} (V : s_V σ) (Q : s_Q σ) (h1 : l1.toInt = (f : Int)) (h2 : l2.toInt = (wo : Int)) (h3 : l3.toInt = (t : Int)) (hf : f < hs_m σ) (hw : wo < hs_m σ) (ht : t < hs_n σ) (k : s_kn σ f t = true) : ∀ (n h : Nat) {l6 : Int32} {M : gM}, y_Fr (2 ^ 50) M0 M → e_V M (s_sp σ f wo t h).1 → l6.toInt = (h : Int) → h ≤ hs_m σ → hs_m σ - h < n → Ok (F_X12_goesOn_L9 n (some 175) l1 l2 l3 (Int32.ofNat (s_sp σ f wo t h).2.1) (Int32.ofNat (s_sp σ f wo t h).2.2) l6 M) (fun q => q.1 = Int32.ofNat (s_sp σ f wo t (hs_m σ)).2.1 ∧ y_Fr (2 ^ 50) M0 q.2 ∧ e_V q.2 (s_sp σ f wo t (hs_m σ)).1) := by
  have nn := s_Vn V
  intro n
  induction n with
  | zero => intro h l6 M F X h6 hh hn; omega
  | succ n ih =>
    intro h l6 M F X h6 hh hn
    obtain ⟨⟨⟨a1, a2⟩, a3, a4⟩, a5, a6⟩ := sp_i (wo := wo) V Q hf (by omega) k h hh
    have nm := nm_of (σ := σ) (σ' := (s_sp σ f wo t h).1) (fun j hj => a4 j (by omega))
    have z3 : (3 : Int32).toInt = 3 := rfl
    have o3 : (Int32.ofNat (s_sp σ f wo t h).2.2).toInt = ((s_sp σ f wo t h).2.2 : Int) := i_ofNat (by omega)
    have e2 : (s_sp σ f wo t h).1 2 = σ 2 := a4 2 (by decide)
    show Ok (F_X12_goesOn_b9 (F_X12_goesOn_L9 n) (some 175) l1 l2 l3 _ _ l6 M) _
    delta F_X12_goesOn_b9 F_X12_goesOn_b90 F_X12_goesOn_b84 F_X12_goesOn_b81 F_X12_goesOn_b84
    rw [e_sd X (k := 2) rfl (by decide), e2]
    have c0 := i_le_n h6 nn.2.1
    by_cases c : hs_m σ ≤ h
    · have : h = hs_m σ := by omega
      subst this
      rw [if_pos (c0.mpr c)]
      exact Ok_s ⟨rfl, F, X⟩
    rw [if_neg (mt c0.mp c)]
    have ih' := fun (M : gM) => ih (h + 1) (l6 := l6 + 1) (M := M)
    rw [sp_succ] at ih'
    have l6n : l6 = Int32.ofNat h := i_nt h6 (by omega)
    by_cases d : 3 ≤ (s_sp σ f wo t h).2.2
    · rw [if_pos (Int32.le_iff_toInt_le.mpr (by omega))]
      have e3 := sp_3 d (hs_m σ - h)
      rw [show h + (hs_m σ - h) = hs_m σ by omega] at e3
      rw [e3]
      exact Ok_s ⟨rfl, F, X⟩
    rw [if_neg (fun z => by have := i_le z; omega)]
    rw [if_neg d] at ih'
    by_cases w : l6 = l2
    · have : h = wo := by rw [w] at h6; omega
      rw [if_pos w]
      rw [if_pos (Or.inl this)] at ih'
      exact ih' _ F X (i_nx h6 (by omega)) (by omega) (by omega)
    have hwo : h ≠ wo := fun z => w (Int32.toInt_inj.mp (by omega))
    have a52 := i_cadd (c := (52 : Int32)) (x := l1) (n := 52) rfl (by omega) (by omega)
    rw [if_neg w, e_sd X (k := 52 + f) (by omega) (by omega), a4 (52 + f) (by omega)]
    by_cases b : hs_is (σ (52 + f)) l6 = 1
    · rw [show F_X12_isOf (σ (52 + f)) l6 M = some 1 from if_pos b, Option.bind_some, if_neg (by decide)]
      rw [if_neg (by rw [← l6n]; exact fun z => z.elim hwo (fun y => y b))] at ih'
      rw [e_gO X.1, Option.bind_some, E_strengthOf X h1 h3 (by omega) (by omega), Option.bind_some]
      refine Ok_b (E_takes (w := false) X h1 h6 h3 (by omega) (by omega) (by omega) a3 rfl) (fun q z => ?_)
      obtain ⟨v9, M10⟩ := q
      obtain ⟨z1, z2, z3⟩ := z
      dsimp only at z1 z2 z3 ⊢
      subst z1
      have go := ih' _ (y_tr F z2) z3 (i_nx h6 (by omega)) (by omega) (by omega)
      dsimp only at go
      have i1 : Int32.ofNat (s_sp σ f wo t h).2.2 + (1 : Int32) = Int32.ofNat ((s_sp σ f wo t h).2.2 + 1) := i_n1 _ (by omega)
      have i2 : Int32.ofNat (s_sp σ f wo t h).2.1 + (1 : Int32) = Int32.ofNat ((s_sp σ f wo t h).2.1 + 1) := i_n1 _ (by omega)
      by_cases tk : s_tk (s_sp σ f wo t h).1 f h t = true
      · rw [if_pos tk, if_neg (by decide)]
        rw [if_pos tk] at go
        rw [i1, i2]
        exact go
      · rw [if_neg tk, if_pos rfl]
        rw [if_neg tk] at go
        rw [i1, show Int32.ofNat (s_sp σ f wo t h).2.1 + (0 : Int32) = Int32.ofNat (s_sp σ f wo t h).2.1 from Int32.add_zero _]
        exact go
    · rw [show F_X12_isOf (σ (52 + f)) l6 M = some 0 from if_neg b, Option.bind_some, if_pos rfl]
      rw [if_pos (Or.inr (by rw [← l6n]; exact b))] at ih'
      exact ih' _ F X (i_nx h6 (by omega)) (by omega) (by omega)
