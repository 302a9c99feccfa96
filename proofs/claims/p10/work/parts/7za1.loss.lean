/-! losses, whatever the RULE IN FORCE; a YEAR -/
def s_cp (v : Int64) : Int32 := ((if (if v < (99 : Int64) then v else (99 : Int64)) < (0 : Int64) then (0 : Int64) else (if v < (99 : Int64) then v else (99 : Int64)))).toInt32
theorem l_lt {a b : Int64} : a < b ↔ a.toInt < b.toInt := Int64.lt_iff_toInt_lt
theorem s_cp_c (v : Int64) : (v.toInt < 0 ∧ s_cp v = 0) ∨ ((0 ≤ v.toInt ∧ v.toInt < 99) ∧ s_cp v = v.toInt32) ∨ (99 ≤ v.toInt ∧ s_cp v = 99) := by
  have z0 : (0 : Int64).toInt = 0 := rfl
  have z9 : (99 : Int64).toInt = 99 := rfl
  unfold s_cp
  by_cases c : v < (99 : Int64)
  · have c' := l_lt.mp c
    rw [if_pos c]
    by_cases d : v < (0 : Int64)
    · have d' := l_lt.mp d
      rw [if_pos d]
      exact Or.inl ⟨by omega, rfl⟩
    · have d' := mt l_lt.mpr d
      rw [if_neg d]
      exact Or.inr (Or.inl ⟨by omega, rfl⟩)
  · have c' := mt l_lt.mpr c
    rw [if_neg c, if_neg (by decide)]
    exact Or.inr (Or.inr ⟨by omega, rfl⟩)
theorem s_cp_r (v : Int64) : 0 ≤ (s_cp v).toInt ∧ (s_cp v).toInt ≤ 99 := by
  rcases s_cp_c v with ⟨_, h⟩ | ⟨h1, h⟩ | ⟨_, h⟩
  · rw [h]
    decide
  · rw [h, Int64.toInt_toInt32]
    have : v.toInt.bmod (2 ^ 32) = v.toInt := i_bm (by omega) (by omega)
    rw [this]
    omega
  · rw [h]
    decide
theorem lg_r (x y : Int64) : (lg_cmp x y = 1 ∧ y.toInt < x.toInt) ∨ (lg_cmp x y = 0 ∧ x.toInt = y.toInt) ∨ (lg_cmp x y = -1 ∧ x.toInt < y.toInt) := by
  unfold lg_cmp
  by_cases c : x > y
  · rw [if_pos c]
    exact Or.inl ⟨rfl, l_lt.mp c⟩
  · have c' := mt l_lt.mpr c
    rw [if_neg c]
    by_cases d : x = y
    · rw [if_pos d, d]
      exact Or.inr (Or.inl ⟨rfl, rfl⟩)
    · rw [if_neg d]
      have : x.toInt ≠ y.toInt := fun z => d (Int64.toInt_inj.mp z)
      exact Or.inr (Or.inr ⟨rfl, by omega⟩)
theorem s_cp_e {α : Type} {v : Int64} {M : α} : (if 0 ≤ (lg_cmp v (0 : Int64)) then (if (lg_cmp v (99 : Int64)) ≤ 0 then (some ((v).toInt32, M)) else (some ((99 : Int32), M))) else (some ((0 : Int32), M))) = some (s_cp v, M) := by
  have z0 : (0 : Int64).toInt = 0 := rfl
  have z9 : (99 : Int64).toInt = 99 := rfl
  have q := s_cp_c v
  have n1 : ¬ (0 : Int32) ≤ -1 := by decide
  have n2 : ¬ (1 : Int32) ≤ 0 := by decide
  rcases lg_r v 0 with ⟨a, b⟩ | ⟨a, b⟩ | ⟨a, b⟩ <;> rcases lg_r v 99 with ⟨c, d⟩ | ⟨c, d⟩ | ⟨c, d⟩ <;> rw [a, c] <;> rcases q with ⟨e, f⟩ | ⟨e, f⟩ | ⟨e, f⟩ <;> first | (exfalso; omega) | (rw [f]; rfl) | skip
  all_goals
    have : v = 99 := Int64.toInt_inj.mp (by omega)
    rw [f, this]
    rfl
abbrev s_Ru : Type := Option (List (Nat × Int32) × List (Nat × Nat × Nat))
noncomputable def m_v (w : Nat → Int64) (o : List (Nat × Int32)) (ms : List (Nat × Nat × Nat)) : Int64 := Classical.epsilon (fun v => m_V w o ms 0 v)
theorem m_v_V {w : Nat → Int64} {o : List (Nat × Int32)} {ms : List (Nat × Nat × Nat)} (R : m_R o ms) : m_V w o ms 0 (m_v w o ms) := Classical.epsilon_spec (m_V_ex R ms.length 0 (by omega))
noncomputable def s_Lr (r : s_Ru) (σ : Nat → Int32) (h t : Nat) : Int32 := match r with
  | none => s_pl σ h t
  | some x => s_cp (m_v (s_wd σ h t) x.1 x.2)
noncomputable def s_Ls (r : s_Ru) (σ : Nat → Int32) (h t : Nat) : Int32 := if h < hs_m σ ∧ t < hs_n σ then s_Lr r σ h t else 0
theorem s_Ls_in {r : s_Ru} {σ : Nat → Int32} {h t : Nat} (hh : h < hs_m σ) (ht : t < hs_n σ) : s_Ls r σ h t = s_Lr r σ h t := if_pos ⟨hh, ht⟩
theorem s_Ls_LV {r : s_Ru} {σ : Nat → Int32} (V : s_V σ) : s_LV (s_Ls r σ) := by
  intro h t
  unfold s_Ls
  by_cases c : h < hs_m σ ∧ t < hs_n σ
  · rw [if_pos c]
    cases r with
    | none =>
      have := s_pl_r V c.1 c.2
      show 0 ≤ (s_pl σ h t).toInt ∧ (s_pl σ h t).toInt ≤ 99
      omega
    | some x => exact s_cp_r _
  · rw [if_neg c]
    decide
noncomputable def s_yr (r : s_Ru) (σ : Nat → Int32) : Int32 × (Nat → Int32) := s_ps σ (s_Ls r σ)
theorem yr_lo {r : s_Ru} {σ : Nat → Int32} (V : s_V σ) {j : Nat} (hj : j < 10) (h4 : j ≠ 4) : (s_yr r σ).2 j = σ j := by
  show hs_set (s_p3 σ (s_Ls r σ)).2 4 ((s_p3 σ (s_Ls r σ)).2 4 + 1) j = σ j
  rw [hs_sn h4]
  exact p3_nm V hj
theorem yr_4 {r : s_Ru} {σ : Nat → Int32} (V : s_V σ) : (s_yr r σ).2 4 = σ 4 + 1 := by
  show hs_set (s_p3 σ (s_Ls r σ)).2 4 ((s_p3 σ (s_Ls r σ)).2 4 + 1) 4 = σ 4 + 1
  rw [hs_se, p3_4 V]
theorem yr_nm {r : s_Ru} {σ : Nat → Int32} (V : s_V σ) : hs_n (s_yr r σ).2 = hs_n σ ∧ hs_m (s_yr r σ).2 = hs_m σ := nm_of (fun j hj => yr_lo V (by omega) (by omega))
theorem yr_Vx {r : s_Ru} {σ : Nat → Int32} (V : s_V σ) (hy : 0 ≤ (σ 4).toInt) : s_V (s_yr r σ).2 := ps_V V (s_Ls_LV V) hy
/-! of the class -/
def c_J (r : s_Ru) (rl : Option Nat) (M : gM) : Prop := k_Z M ∧ match r, rl with
  | none, none => True
  | some x, some j => ∃ js jm, (196 < j ∧ 196 < js ∧ 196 < jm) ∧ k_rl M j js jm x.1 x.2
  | _, _ => False
/-- frame of a YEAR: the years' own cells and the State at s -/
def k_Fy (s : Nat) (M M' : gM) : Prop := (M'.1 = M.1 ∧ M'.2.2.2 = M.2.2.2) ∧ ∀ i, ¬ (5 ≤ i ∧ i ≤ 8) → ¬ (s ≤ i ∧ i ≤ s + 4) → M'.2.1 i = M.2.1 i ∧ M'.2.2.1 i = M.2.2.1 i
theorem k_Fy_r {s : Nat} {M : gM} : k_Fy s M M := ⟨⟨rfl, rfl⟩, fun _ _ _ => ⟨rfl, rfl⟩⟩
theorem k_Fy_t {s : Nat} {M M1 M2 : gM} (h1 : k_Fy s M M1) (h2 : k_Fy s M1 M2) : k_Fy s M M2 := ⟨⟨h2.1.1.trans h1.1.1, h2.1.2.trans h1.1.2⟩, fun i a b => ⟨(h2.2 i a b).1.trans (h1.2 i a b).1, (h2.2 i a b).2.trans (h1.2 i a b).2⟩⟩
theorem k_Fy_58 {s : Nat} {M M' : gM} (h : k_F58 M M') : k_Fy s M M' := ⟨h.1, fun i a _ => h.2 i (by omega)⟩
theorem k_Fy_s {s : Nat} {M M' : gM} (h : k_Fs s M M') : k_Fy s M M' := ⟨⟨h.1.1.1, h.1.2⟩, fun i _ b => ⟨h.2 i (by omega), by rw [h.1.1.2]⟩⟩
theorem k_Z_m {M M' : gM} (Z : k_Z M) (h1 : M'.1 = M.1) (h2 : M'.2.2.2 = M.2.2.2) : k_Z M' := by
  have hk : ∀ i, g_k M' i = g_k M i := fun i => q_k_of h1
  unfold k_Z at Z ⊢
  simp only [hk, h2]
  exact Z
theorem k_rl_m {M M' : gM} {j js jm : Nat} {o : List (Nat × Int32)} {ms : List (Nat × Nat × Nat)} (R : k_rl M j js jm o ms) (h1 : M'.1 = M.1) (h2 : M'.2.2.2 = M.2.2.2) (h3 : M'.2.1 js = M.2.1 js) (h4 : M'.2.1 jm = M.2.1 jm) : k_rl M' j js jm o ms := by
  have hk : ∀ i, g_k M' i = g_k M i := fun i => q_k_of h1
  unfold k_rl at R ⊢
  rw [hk, hk, hk, h2, h3, h4]
  exact R
theorem c_J_m {r : s_Ru} {rl : Option Nat} {M M' : gM} (J : c_J r rl M) (h1 : M'.1 = M.1) (h2 : M'.2.2.2 = M.2.2.2) (h3 : ∀ i, 196 < i → M'.2.1 i = M.2.1 i) : c_J r rl M' := by
  refine ⟨k_Z_m J.1 h1 h2, ?_⟩
  have J2 := J.2
  cases r with
  | none => cases rl with
    | none => trivial
    | some j => exact J2
  | some x => cases rl with
    | none => exact J2
    | some j =>
      obtain ⟨js, jm, ⟨a0, a1, a2⟩, R⟩ := J2
      exact ⟨js, jm, ⟨a0, a1, a2⟩, k_rl_m R h1 h2 (h3 js a1) (h3 jm a2)⟩
theorem c_J_58 {r : s_Ru} {rl : Option Nat} {M M' : gM} (J : c_J r rl M) (f : k_F58 M M') : c_J r rl M' := c_J_m J f.1.1 f.1.2 (fun i hi => (f.2 i (by omega)).1)
theorem C_LO_r {s e : Nat} {σ : Nat → Int32} {r : s_Ru} {rl : Option Nat} (hs8 : 8 < s) (he : 8 < e) (V : s_V σ) : C_LO (c_J r rl) s e σ (s_Ls r σ) rl := by
  intro M h t l4 l5 f P X Y Jx h4 h5 hh ht k g
  have nn := s_Vn V
  have Z := Jx.1
  have J2 := Jx.2
  rw [s_Ls_in hh ht] at g
  cases r with
  | none => cases rl with
    | none => exact C_LO_none (fun M M' => c_J_58) M h t l4 l5 f P X Y Jx h4 h5 hh ht k g
    | some j => exact absurd J2 (fun z => z)
  | some x => cases rl with
    | none => exact absurd J2 (fun z => z)
    | some j =>
      obtain ⟨js, jm, ⟨a0, a1, a2⟩, R⟩ := J2
      have ix := k_ix h4 h5 (by omega) (by omega)
      rw [if_neg (by simp)]
      refine x_gR Y.1.1.1 Y.2.2 (x_gO Z.1.1.1 ?_)
      refine Ok_b (C_look Z X h4 h5 hh ht k) (fun M6 a => ?_)
      have Y6 := k_Y_m Y a.1.1.1 a.1.1.2
      have Z6 := w_Az a Z
      have R6 := k_rl_m R a.1.1.1 a.1.1.2 (congrFun a.1.2.1 js) (congrFun a.1.2.1 jm)
      refine x_gR Y6.1.1.1 Y6.2.1 (x_gR Y6.1.1.1 Y6.2.2 (x_gO Z6.1.1.1 ?_))
      refine Ok_b (C_loss Z6 (fun i hi => a.2 i (by omega)) R6 (m_v_V R.2.2.2)) (fun y z => ?_)
      obtain ⟨v10, M11⟩ := y
      obtain ⟨e10, f11⟩ := z
      dsimp only at e10 f11 ⊢
      have Y11 := k_Y_m Y6 f11.1.1 f11.1.2
      refine x_sI Y11.1.1.2 ix (by omega) ?_
      have F1 : k_F58 M M11 := ⟨⟨f11.1.1.trans a.1.1.1, f11.1.2.trans a.1.1.2⟩, fun i hi => ⟨(f11.2.1 i (by omega)).trans (congrFun a.1.2.1 i), (f11.2.2 i (by omega)).trans (a.1.2.2 i (by omega))⟩⟩
      have F2 : k_F58 M (mI M11 5 (7 * h + t) (s_cp v10)) := k_58t F1 (k_58I (by omega))
      refine g _ F2 (c_J_58 Jx F2) ?_ (fun b hb => ?_)
      · rw [y_mI1, e10]
        rfl
      · rw [mI_ne (Or.inr hb), f11.2.1 5 (by decide), a.1.2.1]
theorem C_year {M : gM} {s e : Nat} {σ : Nat → Int32} {r : s_Ru} {rl : Option Nat} (hs : 8 < s ∧ s + 4 < 197) (he : 8 < e) (hd : e + 5 < s ∨ s + 4 < e) (Y : k_Y M) (X : k_X M s e σ) (hy : 0 ≤ (σ 4).toInt) (J : c_J r rl M) : Ok (F_X10_pass (some 4) (some e) (some s) rl M) (fun q => q.1 = (s_yr r σ).1 ∧ (k_X q.2 s e (s_yr r σ).2 ∧ c_J r rl q.2 ∧ k_Y q.2) ∧ k_Fy s M q.2) := by
  refine Ok_w (C_pass (W := fun M M2 => c_J r rl M2 ∧ k_F58 M M2) (L := s_Ls r σ) (by omega) hd Y X.2.2 (s_Ls_LV X.2.2) hy (C_weigh hs.1 he Y X J (fun M M' => c_J_58) (C_LO_r hs.1 he X.2.2))) (fun q z => ?_)
  obtain ⟨z1, M2, ⟨J2, f2⟩, f3, X3⟩ := z
  have f := k_Fy_t (k_Fy_58 f2) (k_Fy_s (s := s) f3)
  exact ⟨z1, ⟨X3, c_J_m J2 f3.1.1.1 f3.1.2 (fun i hi => f3.2 i (by omega)), k_Y_m Y f.1.1 f.1.2⟩, f⟩
/-! of the reference -/
def e_I (r : s_Ru) (M : gM) : Prop := match r with
  | none => (M.2.1 175 21).toInt < 0
  | some x => ∃ t : Nat, t ≤ 5 ∧ (M.2.1 175 21).toInt = (t : Int) ∧ r_rl M t x.1 x.2
theorem e_I_m {S : Nat} {r : s_Ru} {M M' : gM} (I : e_I r M) (f : y_Fr S M M') (h : Nat.land S (2 ^ 21 + 2 ^ 42 + 2 ^ 44 + 2 ^ 45) = 0) : e_I r M' := by
  have e21 : M'.2.1 175 21 = M.2.1 175 21 := y_fk (i := 175) (k := 21) f (y_dis h (by decide))
  cases r with
  | none =>
    show (M'.2.1 175 21).toInt < 0
    rw [e21]
    exact I
  | some x =>
    obtain ⟨t, h1, h2, h3⟩ := I
    refine ⟨t, h1, by rw [e21]; exact h2, ?_⟩
    have e1 : M'.2.1 179 = M.2.1 179 := funext (fun q => y_fa (i := 179) f (by decide) (y_dis h (by decide)) q)
    have e2 : M'.2.1 180 = M.2.1 180 := funext (fun q => y_fa (i := 180) f (by decide) (y_dis h (by decide)) q)
    have e3 : y_sn M' t = y_sn M t := y_snf f (y_dis h (by decide)) t
    unfold r_rl at h3 ⊢
    rw [e1, e2, e3]
    exact h3
theorem E_LO_r {σ : Nat → Int32} {r : s_Ru} : e_LO (e_I r) σ (s_Ls r σ) := by
  intro M h t l1 l2 X I h1 h2 hh ht k
  have nn := s_Vn X.2.2
  rw [s_Ls_in hh ht]
  have H := X.1
  have z0 : (0 : Int32).toInt = 0 := rfl
  delta F_X12_lossOf F_X12_lossOf_b0
  rw [e_gI H, Option.bind_some]
  cases r with
  | none =>
    have I' : (M.2.1 175 21).toInt < 0 := I
    have i38 := i_mulL (c := (2 : Int32)) (x := l1) (n := 2) rfl (by omega) (by omega)
    have j38 := i_cadd (c := (38 : Int32)) (x := (2 : Int32) * l1) (n := 38) rfl (by omega) (by omega)
    rw [if_neg (fun z => by have := i_le z; omega), e_sd X (k := 38 + 2 * h) (by omega) (by omega), e_gO H, Option.bind_some, E_fades X h1 h2 hh ht, Option.bind_some]
    exact Ok_s ⟨rfl, ⟨H, I⟩, y_rf0 _ _⟩
  | some x =>
    obtain ⟨u, u5, eu, R⟩ := I
    rw [if_pos (Int32.le_iff_toInt_le.mpr (by omega)), e_gO H, Option.bind_some]
    refine Ok_b (E_words X h1 h2 hh ht) (fun M3 a => ?_)
    have H3 := a.1.1.1
    have e21 : M3.2.1 175 21 = M.2.1 175 21 := congrFun (congrFun a.1.2 175) 21
    rw [e_gI H3, Option.bind_some, e_gC H3, Option.bind_some]
    refine Ok_b (E_summedBy (w := s_wd σ h t) (by rw [e21]; exact eu) u5 H3 (fun i hi => a.2 i (by omega)) (r_rl_m R a.1.1.2 (by decide)) (m_v_V R.2.2)) (fun y z => ?_)
    obtain ⟨v6, M7⟩ := y
    obtain ⟨e6, f7⟩ := z
    dsimp only at e6 f7 ⊢
    rw [s_cp_e]
    have F := y_tr a.1.1.2 f7.1.2
    refine Ok_s ⟨?_, ⟨f7.1.1, ?_⟩, F⟩
    · show s_cp v6 = _
      rw [e6]
      rfl
    · exact e_I_m (r := some x) ⟨u, u5, eu, R⟩ F (by decide)
theorem E_year {M : gM} {σ : Nat → Int32} {r : s_Ru} (X : e_V M σ) (I : e_I r M) (hy : 0 ≤ (σ 4).toInt) : Ok (F_X12_passes (some 175) M) (fun q => q.1 = (s_yr r σ).1 ∧ e_C (e_I r) M q.2 (s_yr r σ).2) :=
  E_passes (fun M M' I _ f => e_I_m I f (by decide)) X I (s_Ls_LV X.2.2) hy E_LO_r
