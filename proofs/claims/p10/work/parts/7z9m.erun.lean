/-! the reference runs steps -/
theorem e_map_le {k : Nat} (h : k ≤ 14) : e_map k ≤ 14 := by
  unfold e_map
  repeat' split
  all_goals omega
theorem e_r_b {k : Nat} {v : Int32} (hk : k ≤ 14) (h0 : 0 ≤ v.toInt) (h1 : v.toInt ≤ 99999) : (e_r (k, v)) &&& (15 : Int32) = Int32.ofNat (e_map k) ∧ (e_r (k, v)) >>> ((4 : Int32) &&& 31) = v := by
  have em := e_map_le hk
  have oi : (Int32.ofNat (e_map k)).toInt = (e_map k : Int) := i_ofNat (by omega)
  have a1 := i_mulL (c := (16 : Int32)) (x := v) (n := 16) rfl (by omega) (by omega)
  have a2 := i_add (x := Int32.ofNat (e_map k)) (y := (16 : Int32) * v) (by omega) (by omega)
  have e : (e_r (k, v)).toInt = e_map k + 16 * v.toInt := by
    show (Int32.ofNat (e_map k) + (16 : Int32) * v).toInt = _
    omega
  constructor
  · refine Int32.toInt_inj.mp ?_
    rw [i_and15 (by omega), oi]
    omega
  · refine Int32.toInt_inj.mp ?_
    rw [i_shr4]
    omega
theorem e_sLx {i n : Nat} {j : Int32} {v : Int64} {M : gM} (H : y_HT M) (hk : y_kd i = (21, n)) (h0 : 0 ≤ j.toInt) (h1 : j.toInt < (n : Int)) : sL M (some i) j v = some (mL M i j.toNatClampNeg v) := by
  have K := y_kk H (y_cs_of hk (Nat.le_of_ble_eq_true rfl)) hk
  exact t_sL K h0 h1
theorem e_aLx {i n : Nat} {j : Int32} {M : gM} (H : y_HT M) (hk : y_kd i = (21, n)) (h0 : 0 ≤ j.toInt) (h1 : j.toInt < (n : Int)) : aL M (some i) j = some (M.2.2.1 i j.toNatClampNeg) := by
  have K := y_kk H (y_cs_of hk (Nat.le_of_ble_eq_true rfl)) hk
  exact t_aL K h0 h1
/-- only the stack moved -/
def e_Fz (M M' : gM) : Prop := (y_HT M' ∧ y_Fr 262144 M M') ∧ M'.2.2.1 184 = M.2.2.1 184
theorem e_zr {M : gM} (H : y_HT M) : e_Fz M M := ⟨⟨H, y_rf0 _ _⟩, rfl⟩
theorem e_zt {M M1 M2 : gM} (h1 : e_Fz M M1) (h2 : e_Fz M1 M2) : e_Fz M M2 := ⟨⟨h2.1.1, y_tr h1.1.2 h2.1.2⟩, h2.2.trans h1.2⟩
theorem e_zI {M : gM} {v : Int32} (H : y_HT M) (h : 0 ≤ v.toInt ∧ v.toInt ≤ 64) : e_Fz M (mI M 175 18 v) := by
  obtain ⟨H1, f1⟩ := y_set (M' := mI M 175 18 v) (S := 262144) H (i := 175) (k := 18) (by decide) rfl rfl y_mI1 (fun j a hj => y_mI2 hj) rfl (y_in (lo := 0) (hi := 64) rfl h) (by decide)
  exact ⟨⟨H1, f1⟩, rfl⟩
theorem e_zL {M : gM} {k : Nat} {v : Int64} (H : y_HT M) : e_Fz M (mL M 183 k v) := by
  obtain ⟨H1, f1⟩ := y_setL (M' := mL M 183 k v) (S := 262144) H (i := 183) (k := k) (by decide) rfl (fun h => by cases h)
  exact ⟨⟨H1, f1⟩, funext (fun a => mL_ne (Or.inl (by decide)))⟩
def e_sq (M : gM) (st : List Int64) : Prop := (M.2.1 175 18).toInt = (st.length : Int) ∧ m_K (M.2.2.1 183) st
theorem E_push {M : gM} {st : List Int64} {v : Int64} (H : y_HT M) (S : e_sq M st) (h : st.length < 64) : Ok (F_X12_push (some 175) v M) (fun M' => e_Fz M M' ∧ e_sq M' (v :: st)) := by
  have cl := i_cl S.1
  have s1 := S.1
  delta F_X12_push F_X12_push_b0
  rw [e_gR H (w := 183) rfl (by decide), Option.bind_some, e_gI H, Option.bind_some, e_sLx H (i := 183) (n := 64) rfl (by omega) (by omega), Option.bind_some, cl]
  have f1 := e_zL (M := M) (k := st.length) (v := v) H
  have e2 : (mL M 183 st.length v).2.1 175 18 = M.2.1 175 18 := rfl
  rw [e_gI f1.1.1, Option.bind_some, e_pI f1.1.1, Option.bind_some, e2, n_inc S.1 (by omega)]
  have f2 := e_zI (v := Int32.ofNat (st.length + 1)) f1.1.1 (by rw [i_ofNat (by omega)]; omega)
  refine Ok_s ⟨e_zt f1 f2, by rw [y_mI1, i_ofNat (by omega)]; rfl, ?_⟩
  refine ⟨y_mL1, m_K_c (fun q hq => ?_) S.2⟩
  exact mL_ne (Or.inr (by omega))
theorem E_pop {M : gM} {st : List Int64} {v : Int64} (H : y_HT M) (S : e_sq M (v :: st)) (h : st.length < 64) : Ok (F_X12_pop (some 175) M) (fun r => r.1 = v ∧ e_Fz M r.2 ∧ e_sq r.2 st) := by
  have s1 : (M.2.1 175 18).toInt = ((st.length + 1 : Nat) : Int) := S.1
  have a := i_subc (x := M.2.1 175 18) (c := (1 : Int32)) (n := 1) rfl (by omega) (by omega)
  have al : (M.2.1 175 18 - (1 : Int32)).toInt = (st.length : Int) := by omega
  have f1 := e_zI (v := M.2.1 175 18 - (1 : Int32)) H (by omega)
  delta F_X12_pop F_X12_pop_b0
  rw [e_gI H, Option.bind_some, e_pI H, Option.bind_some, e_gR f1.1.1 (w := 183) rfl (by decide), Option.bind_some, e_gI f1.1.1, Option.bind_some, y_mI1, e_aLx f1.1.1 (i := 183) (n := 64) rfl (by omega) (by omega), Option.bind_some, i_cl al]
  exact Ok_s ⟨S.2.1, f1, by rw [y_mI1]; exact al, S.2.2⟩
theorem E_one {k : Nat} {x y : Int64} {M : gM} (h1 : 2 ≤ k) (h2 : k ≤ 13) : F_X12_one (Int32.ofNat (e_map k)) x y M = some (m_o k x y) := by
  delta F_X12_one F_X12_one_b0 F_X12_one_b172
  have ii : ∀ {c : Prop} [Decidable c] {a b : Int64}, (if c then some a else some b) = some (if c then a else b) := by
    intro c _ a b
    by_cases e : c
    · rw [if_pos e, if_pos e]
    · rw [if_neg e, if_neg e]
  have ij : ∀ {a : Int64}, (if (lg_cmp y (0 : Int64)) = 0 then (some (0 : Int64)) else (if y = 0 then none else some a)) = some (if (lg_cmp y (0 : Int64)) = 0 then (0 : Int64) else a) := by
    intro a
    by_cases e : (lg_cmp y (0 : Int64)) = 0
    · rw [if_pos e, if_pos e]
    · rw [if_neg e, if_neg e, if_neg (i_nzJ e)]
  rw [ij, ij, ii, ii, ii, ii, ii]
  rcases (by omega : k = 2 ∨ k = 3 ∨ k = 4 ∨ k = 5 ∨ k = 6 ∨ k = 7 ∨ k = 8 ∨ k = 9 ∨ k = 10 ∨ k = 11 ∨ k = 12 ∨ k = 13) with c | c | c | c | c | c | c | c | c | c | c | c <;> subst c <;> rfl
def e_W (M : gM) (w : Nat → Int64) : Prop := ∀ i, i ≤ 13 → M.2.2.1 184 i = w i
theorem e_Wz {M M' : gM} {w : Nat → Int64} (W : e_W M w) (f : e_Fz M M') : e_W M' w := fun i h => by rw [f.2]; exact W i h
theorem e_zs {M M' : gM} (f : e_Fz M M') (t : Nat) : y_sn M' t = y_sn M t := y_snf f.1.2 (by decide) t
theorem E_seg {w : Nat → Int64} {t to : Nat} {l1 l3 : Int32} (ht : l1.toInt = (t : Int)) (ht5 : t ≤ 5) (h3 : l3.toInt = (to : Int)) (hto : to ≤ 400) : ∀ {g : List (Nat × Int32)} {d : Nat} {v : Int64}, m_E w g d v → ∀ (n i : Nat) {l4 : Int32} {M : gM} {st : List Int64} {P : Int64 × gM → Prop}, y_HT M → e_W M w → m_L e_r (y_sn M t) i g → l4.toInt = (i : Int) → i + g.length ≤ to → e_sq M st → st.length + d ≤ 32 →
    (∀ M' l, e_Fz M M' → e_sq M' (v :: st) → l.toInt = ((i + g.length : Nat) : Int) → Ok (F_X12_reckons_L8 n (some 175) l1 l3 l M') P) → Ok (F_X12_reckons_L8 (n + g.length) (some 175) l1 l3 l4 M) P := by
  intro g d v E
  have pre : ∀ (n i : Nat) {l4 : Int32} {M : gM} {P : Int64 × gM → Prop} {a : Nat × Int32}, y_HT M → y_sn M t i = e_r a → (a.1 ≤ 14 ∧ 0 ≤ a.2.toInt ∧ a.2.toInt ≤ 99999) → l4.toInt = (i : Int) → i < to →
      Ok (if Int32.ofNat (e_map a.1) = 0 then ((gO 12 M (some 175)).bind fun i26 => (F_X12_push (some i26) (a.2).toInt64 M).bind fun M27 => F_X12_reckons_b129 (F_X12_reckons_L8 n) (some i26) l1 l3 l4 M27) else (if Int32.ofNat (e_map a.1) = (1 : Int32) then ((gR 12 M (some 175) 19).bind fun v22 => (aL M v22 a.2).bind fun v23 => (gO 12 M (some 175)).bind fun i24 => (F_X12_push (some i24) v23 M).bind fun M25 => F_X12_reckons_b129 (F_X12_reckons_L8 n) (some i24) l1 l3 l4 M25) else (if Int32.ofNat (e_map a.1) = (11 : Int32) then ((gO 12 M (some 175)).bind fun i17 => (F_X12_pop (some i17) M).bind fun (v18, M19) => (gC 12 M19 i17).bind fun _ => (F_X12_push (some i17) ((1 : Int64) - v18) M19).bind fun M21 => F_X12_reckons_b129 (F_X12_reckons_L8 n) (some i17) l1 l3 l4 M21) else ((gO 12 M (some 175)).bind fun i8 => (F_X12_pop (some i8) M).bind fun (v9, M10) => (gC 12 M10 i8).bind fun _ => (F_X12_pop (some i8) M10).bind fun (v12, M13) => (F_X12_one (Int32.ofNat (e_map a.1)) v12 v9 M13).bind fun v14 => (gC 12 M13 i8).bind fun _ => (F_X12_push (some i8) v14 M13).bind fun M16 => F_X12_reckons_b129 (F_X12_reckons_L8 n) (some i8) l1 l3 l4 M16)))) P →
      Ok (F_X12_reckons_L8 (n + 1) (some 175) l1 l3 l4 M) P := by
    intro n i l4 M P a H hs ha h4 hi hP
    show Ok (F_X12_reckons_b8 (F_X12_reckons_L8 n) (some 175) l1 l3 l4 M) P
    have b := e_r_b (k := a.1) (v := a.2) ha.1 ha.2.1 ha.2.2
    have a1 := i_mulL (c := (400 : Int32)) (x := l1) (n := 400) rfl (by omega) (by omega)
    have a2 := i_add (x := (400 : Int32) * l1) (y := l4) (by omega) (by omega)
    have hj : ((400 : Int32) * l1 + l4).toNatClampNeg = 400 * t + i := i_cl (by omega)
    have hs' : M.2.1 177 (400 * t + i) = e_r (a.1, a.2) := hs
    delta F_X12_reckons_b8
    rw [if_neg (fun z => by have := i_le z; omega), e_gR H (w := 177) rfl (by decide), Option.bind_some, e_aI H (t := 20) (i := 177) (n := 2400) rfl (by decide) (by omega) (by omega), Option.bind_some, Option.bind_some, e_aI H (t := 20) (i := 177) (n := 2400) rfl (by decide) (by omega) (by omega), Option.bind_some, hj, hs', b.1, b.2]
    exact hP
  refine m_Ei (g := g) (d := d) (v := v) (P := fun g d v => ∀ (n i : Nat) {l4 : Int32} {M : gM} {st : List Int64} {P : Int64 × gM → Prop}, y_HT M → e_W M w → m_L e_r (y_sn M t) i g → l4.toInt = (i : Int) → i + g.length ≤ to → e_sq M st → st.length + d ≤ 32 →
    (∀ M' l, e_Fz M M' → e_sq M' (v :: st) → l.toInt = ((i + g.length : Nat) : Int) → Ok (F_X12_reckons_L8 n (some 175) l1 l3 l M') P) → Ok (F_X12_reckons_L8 (n + g.length) (some 175) l1 l3 l4 M) P) ?_ ?_ ?_ ?_ E
  · intro v d h1 h2 hd n i l4 M st P H W L h4 hi S h32 g
    have hs : y_sn M t i = e_r (0, v) := L.1
    refine pre n i (a := (0, v)) H hs ⟨Nat.zero_le _, h1, h2⟩ h4 (by have : i + 1 ≤ to := hi; omega) ?_
    dsimp only
    rw [if_pos (show Int32.ofNat (e_map 0) = 0 from rfl), e_gO H, Option.bind_some]
    refine Ok_b (E_push H S (by omega)) (fun M23 z => ?_)
    exact g _ _ z.1 z.2 (i_nx h4 (by have : i + 1 ≤ to := hi; omega))
  · intro v d j h1 h2 hd n i l4 M st P H W L h4 hi S h32 g
    have hs : y_sn M t i = e_r (1, v) := L.1
    refine pre n i (a := (1, v)) H hs ⟨by show 1 ≤ 14; decide, by show 0 ≤ v.toInt; omega, by show v.toInt ≤ 99999; omega⟩ h4 (by have : i + 1 ≤ to := hi; omega) ?_
    dsimp only
    rw [if_neg (by decide), if_pos (show Int32.ofNat (e_map 1) = 1 from rfl), e_gR H (w := 184) rfl (by decide), Option.bind_some, e_aLx H (i := 184) (n := 14) rfl (by omega) (by omega), Option.bind_some, i_cl h1, W j h2, e_gO H, Option.bind_some]
    refine Ok_b (E_push H S (by omega)) (fun M23 z => ?_)
    exact g _ _ z.1 z.2 (i_nx h4 (by have : i + 1 ≤ to := hi; omega))
  · intro s d v E1 ih n i l4 M st P H W L h4 hi S h32 g
    have hi' : i + (s.length + 1) ≤ to := hi
    have n1 := (m_Ene E1).2
    rw [show n + ((14, (0 : Int32)) :: s).length = (n + 1) + s.length by simp; omega]
    refine ih (n + 1) i H W L.2 h4 (by omega) S h32 (fun M1 l f1 S1 hl => ?_)
    have hs : y_sn M1 t (i + s.length) = e_r (14, 0) := by rw [e_zs f1]; exact L.1
    have H1 := f1.1.1
    refine pre n (i + s.length) (a := (14, 0)) H1 hs ⟨by decide, by decide, by decide⟩ hl (by omega) ?_
    dsimp only
    rw [if_neg (by decide), if_neg (by decide), if_pos (show Int32.ofNat (e_map 14) = 11 from rfl), e_gO H1, Option.bind_some]
    refine Ok_b (E_pop H1 S1 (by omega)) (fun y z => ?_)
    obtain ⟨v14, M15⟩ := y
    obtain ⟨e14, f15, S15⟩ := z
    dsimp only at e14 f15 S15 ⊢
    have H15 := f15.1.1
    rw [e_gC H15, Option.bind_some, e14]
    refine Ok_b (E_push H15 S15 (by omega)) (fun M17 z => ?_)
    exact g _ _ (e_zt f1 (e_zt f15 z.1)) z.2 (by rw [i_nx hl (by omega)]; simp; omega)
  · intro k s1 s2 d d2 v1 v2 k1 k2 E1 E2 hd ih1 ih2 n i l4 M st P H W L h4 hi S h32 g
    have hi' : i + (s2.length + s1.length + 1) ≤ to := by
      have : i + ((k, (0 : Int32)) :: (s2 ++ s1)).length ≤ to := hi
      simp at this
      omega
    have n1 := (m_Ene E1).2
    have n2 := (m_Ene E2).2
    have L2 := m_L_app L.2
    rw [show n + ((k, (0 : Int32)) :: (s2 ++ s1)).length = ((n + 1) + s2.length) + s1.length by simp; omega]
    refine ih1 ((n + 1) + s2.length) i H W L2.2 h4 (by omega) S h32 (fun M1 l f1 S1 hl => ?_)
    refine ih2 (n + 1) (i + s1.length) f1.1.1 (e_Wz W f1) (by rw [e_zs f1]; exact L2.1) hl (by omega) S1 (by simp; omega) (fun M2 l' f2 S2 hl' => ?_)
    have f12 := e_zt f1 f2
    have hs : y_sn M2 t (i + s1.length + s2.length) = e_r (k, 0) := by
      rw [e_zs f12]
      have := L.1
      rw [List.length_append] at this
      rw [show i + s1.length + s2.length = i + (s2.length + s1.length) by omega]
      exact this
    have H2 := f2.1.1
    have em : e_map k ≠ 0 ∧ e_map k ≠ 1 ∧ e_map k ≠ 11 ∧ e_map k ≤ 14 := by
      rcases (by omega : k = 2 ∨ k = 3 ∨ k = 4 ∨ k = 5 ∨ k = 6 ∨ k = 7 ∨ k = 8 ∨ k = 9 ∨ k = 10 ∨ k = 11 ∨ k = 12 ∨ k = 13) with c | c | c | c | c | c | c | c | c | c | c | c <;> subst c <;> decide
    have go : ∀ (c : Nat), c ≤ 14 → e_map k ≠ c → ¬ Int32.ofNat (e_map k) = Int32.ofNat c := fun c hc hn e => by
      have := congrArg Int32.toInt e
      rw [i_ofNat (by omega), i_ofNat (by omega)] at this
      omega
    refine pre n (i + s1.length + s2.length) (a := (k, 0)) H2 hs ⟨by show k ≤ 14; omega, by show 0 ≤ (0 : Int32).toInt; decide, by show (0 : Int32).toInt ≤ 99999; decide⟩ hl' (by omega) ?_
    dsimp only
    rw [if_neg (show ¬ Int32.ofNat (e_map k) = 0 from go 0 (by decide) em.1), if_neg (show ¬ Int32.ofNat (e_map k) = 1 from go 1 (by decide) em.2.1), if_neg (show ¬ Int32.ofNat (e_map k) = 11 from go 11 (by decide) em.2.2.1), e_gO H2, Option.bind_some]
    refine Ok_b (E_pop H2 S2 (by simp; omega)) (fun y z => ?_)
    obtain ⟨v5, M6⟩ := y
    obtain ⟨e5, f6, S6⟩ := z
    dsimp only at e5 f6 S6 ⊢
    have H6 := f6.1.1
    rw [e_gC H6, Option.bind_some, e5]
    refine Ok_b (E_pop H6 S6 (by omega)) (fun y z => ?_)
    obtain ⟨v8, M9⟩ := y
    obtain ⟨e8, f9, S9⟩ := z
    dsimp only at e8 f9 S9 ⊢
    have H9 := f9.1.1
    rw [e8, E_one k1 k2, Option.bind_some, e_gC H9, Option.bind_some]
    refine Ok_b (E_push H9 S9 (by omega)) (fun M12 z => ?_)
    exact g _ _ (e_zt f12 (e_zt f6 (e_zt f9 z.1))) z.2 (by rw [i_nx hl' (by omega)]; simp; omega)
/-- a segment's value -/
theorem E_run {w : Nat → Int64} {t i j : Nat} {l1 l2 l3 : Int32} {g : List (Nat × Int32)} {d : Nat} {v : Int64} {M : gM} (ht : l1.toInt = (t : Int)) (ht5 : t ≤ 5) (H : y_HT M) (W : e_W M w) (L : m_L e_r (y_sn M t) i g) (E : m_E w g d v) (hd : d ≤ 32) (h2 : l2.toInt = (i : Int)) (h3 : l3.toInt = (j : Int)) (hg : g.length + i = j) (hjl : j ≤ 400) : Ok (F_X12_reckons (some 175) l1 l2 l3 M) (fun r => r.1 = v ∧ e_Fz M r.2) := by
  delta F_X12_reckons F_X12_reckons_b0
  rw [e_pI H, Option.bind_some]
  have f0 : e_Fz M (mI M 175 18 (0 : Int32)) := e_zI H (by decide)
  have S0 : e_sq (mI M 175 18 (0 : Int32)) [] := ⟨by rw [y_mI1]; rfl, trivial⟩
  obtain ⟨n, hn⟩ : ∃ n, g_fuel = (n + 1) + g.length := ⟨g_fuel - 1 - g.length, by have : g_fuel = 1000000000 := rfl; omega⟩
  rw [hn]
  refine E_seg ht ht5 h3 hjl E (n + 1) i f0.1.1 (e_Wz W f0) (by rw [e_zs f0]; exact L) h2 (by omega) S0 (by simp; omega) (fun M' l f' S' hl => ?_)
  show Ok (F_X12_reckons_b8 (F_X12_reckons_L8 n) (some 175) l1 l3 l M') _
  have H' := f'.1.1
  delta F_X12_reckons_b8
  rw [if_pos (Int32.le_iff_toInt_le.mpr (by omega)), e_gO H', Option.bind_some]
  refine Ok_b (E_pop H' S' (by decide)) (fun y z => ?_)
  obtain ⟨v2, M3⟩ := y
  exact Ok_s ⟨z.1, e_zt f0 (e_zt f' z.2.1)⟩
