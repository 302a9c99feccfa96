/-! the reference's WORDS, and what a RULE says there -/
def e_A (M M1 : gM) (wd : Nat → Int64) (n : Nat) : Prop := ((y_HT M1 ∧ y_Fr 262144 M M1) ∧ M1.2.1 = M.2.1) ∧ ∀ i, i < n → M1.2.2.1 184 i = wd i
theorem e_Astep {M M1 : gM} {wd : Nat → Int64} {n : Nat} {j : Int32} {v : Int64} {f : gM → Option gM} {P : gM → Prop} (a : e_A M M1 wd n) (hj : j.toInt = (n : Int)) (hn : n < 14) (hv : v = wd n) (g : ∀ M2, e_A M M2 wd (n + 1) → Ok (f M2) P) : Ok ((sL M1 (some 184) j v).bind f) P := by
  obtain ⟨⟨⟨H1, f1⟩, e1⟩, w1⟩ := a
  obtain ⟨H2, f2⟩ := y_setL (M' := mL M1 184 n v) (S := 262144) H1 (i := 184) (k := n) (by decide) rfl (fun h => by cases h)
  rw [e_sLx H1 (i := 184) (n := 14) rfl (by omega) (by omega), Option.bind_some, i_cl hj]
  refine g _ ⟨⟨⟨H2, y_tr f1 f2⟩, e1⟩, fun i hi => ?_⟩
  by_cases c : i = n
  · rw [c, y_mL1, hv]
  · rw [mL_ne (Or.inr c)]
    exact w1 i (by omega)
theorem e_AV {M M1 : gM} {wd : Nat → Int64} {n : Nat} {σ : Nat → Int32} (a : e_A M M1 wd n) (X : e_V M σ) : e_V M1 σ := ⟨a.1.1.1, (congrFun a.1.2 185).trans X.2.1, X.2.2⟩
theorem E_words {M : gM} {h t : Nat} {σ : Nat → Int32} {l1 l2 : Int32} (X : e_V M σ) (h1 : l1.toInt = (h : Int)) (h2 : l2.toInt = (t : Int)) (hh : h < hs_m σ) (ht : t < hs_n σ) : Ok (F_X12_words (some 175) l1 l2 M) (fun M' => e_A M M' (s_wd σ h t) 14) := by
  have nn := s_Vn X.2.2
  have n1 := i_nt h1 (by omega)
  have n2 := i_nt h2 (by omega)
  have a0 : e_A M M (s_wd σ h t) 0 := ⟨⟨⟨X.1, y_rf0 _ _⟩, rfl⟩, fun i hi => absurd hi (Nat.not_lt_zero _)⟩
  have g19 : ∀ {M1 : gM} {n : Nat} {β : Type} {f : Option Nat → Option β} {Q : β → Prop}, e_A M M1 (s_wd σ h t) n → Ok (f (some 184)) Q → Ok ((gR 12 M1 (some 175) 19).bind f) Q := fun a g => by
    rw [e_gR a.1.1.1 (w := 184) rfl (by decide), Option.bind_some]
    exact g
  have gsd : ∀ {M1 : gM} {n k : Nat} {j : Int32} {β : Type} {f : Int32 → Option β} {Q : β → Prop}, e_A M M1 (s_wd σ h t) n → j.toInt = (k : Int) → k < 157 → Ok (f (σ k)) Q → Ok ((gR 12 M1 (some 175) 20).bind fun v => (aI 20 M1 v j).bind f) Q := fun a hj hk g => by
    rw [e_sd (e_AV a X) hj hk]
    exact g
  have gOx : ∀ {M1 : gM} {n : Nat} {β : Type} {f : Nat → Option β} {Q : β → Prop}, e_A M M1 (s_wd σ h t) n → Ok (f 175) Q → Ok ((gO 12 M1 (some 175)).bind f) Q := fun a g => by
    rw [e_gO a.1.1.1, Option.bind_some]
    exact g
  have gCx : ∀ {M1 : gM} {n : Nat} {β : Type} {f : Unit → Option β} {Q : β → Prop}, e_A M M1 (s_wd σ h t) n → Ok (f ()) Q → Ok ((gC 12 M1 175).bind f) Q := fun a g => by
    rw [e_gC a.1.1.1, Option.bind_some]
    exact g
  have b94 : ∀ {M8 : gM} {v : Int64} {l3 : Int32}, e_A M M8 (s_wd σ h t) 3 → v = s_wd σ h t 3 → l3 = s_cn (fun o => s_kn σ h o) (hs_n σ) → Ok (F_X12_words_b94 (some 175) l1 l2 l3 (some 184) (3 : Int32) v M8) (fun M' => e_A M M' (s_wd σ h t) 14) := by
    intro M8 v l3 a hv h3
    have i38 := i_mulL (c := (2 : Int32)) (x := l1) (n := 2) rfl (by omega) (by omega)
    have j38 := i_cadd (c := (38 : Int32)) (x := (2 : Int32) * l1) (n := 38) rfl (by omega) (by omega)
    delta F_X12_words_b94
    refine e_Astep a rfl (by decide) hv (fun M1 a => g19 a (gOx a (x_eq (E_strengthOf (e_AV a X) h1 h2 (by omega) (by omega)) ?_)))
    refine e_Astep a rfl (by decide) rfl (fun M5 a => g19 a (gsd a (k := 38 + 2 * h) (by omega) (by omega) ?_))
    refine e_Astep a rfl (by decide) rfl (fun M9 a => g19 a (gsd a (k := 6) rfl (by decide) ?_))
    refine e_Astep a rfl (by decide) (by rw [n1]; rfl) (fun M13 a => g19 a (gsd a (k := 7) rfl (by decide) ?_))
    refine e_Astep a rfl (by decide) (by rw [n2]; rfl) (fun M17 a => g19 a (gsd a (k := 8) rfl (by decide) ?_))
    refine e_Astep a rfl (by decide) (by rw [n2]; rfl) (fun M21 a => g19 a (gCx a (x_eq (E_thingOf (e_AV a X) h2 (w := 1) rfl (by omega) (by decide)) ?_)))
    refine e_Astep a rfl (by decide) (by show _ = (σ (11 + 4 * t)).toInt64; rw [show 10 + 4 * t + 1 = 11 + 4 * t by omega]) (fun M25 a => g19 a (gCx a (x_eq (E_thingOf (e_AV a X) h2 (w := 2) rfl (by omega) (by decide)) ?_)))
    refine e_Astep a rfl (by decide) (by show _ = (σ (12 + 4 * t)).toInt64; rw [show 10 + 4 * t + 2 = 12 + 4 * t by omega]) (fun M29 a => g19 a (gsd a (k := 4) rfl (by decide) ?_))
    refine e_Astep a rfl (by decide) rfl (fun M33 a => g19 a (gCx a (x_eq (E_sameAs (e_AV a X) h1 h2 (by omega) (by omega)) ?_)))
    refine e_Astep a rfl (by decide) rfl (fun M37 a => g19 a ?_)
    exact e_Astep a rfl (by decide) (by rw [h3]; rfl) (fun M39 a => Ok_s a)
  have main : ∀ (n j : Nat) {l4 : Int32}, l4.toInt = (j : Int) → j ≤ hs_n σ → hs_n σ - j < n → Ok (F_X12_words_L5 n (some 175) l1 l2 (s_cn (fun o => s_kn σ h o) j) l4 M) (fun M' => e_A M M' (s_wd σ h t) 14) := by
    intro n
    induction n with
    | zero => intro j l4 h4 hj hn; omega
    | succ n ih =>
      intro j l4 h4 hj hn
      show Ok (F_X12_words_b5 (F_X12_words_L5 n) (some 175) l1 l2 _ l4 M) _
      delta F_X12_words_b5 F_X12_words_b32
      rw [e_sd X (k := 1) rfl (by decide)]
      have c0 := i_le_n h4 nn.1.1
      by_cases c : hs_n σ ≤ j
      · have : j = hs_n σ := by omega
        subst this
        rw [if_pos (c0.mpr c)]
        refine g19 a0 (e_Astep a0 rfl (by decide) (by rw [n1]; rfl) (fun M4 a => g19 a ?_))
        refine e_Astep a rfl (by decide) (by rw [n2]; rfl) (fun M6 a => g19 a (gOx a (x_eq (E_valueOf (e_AV a X) h1 h2 (by omega) (by omega)) ?_)))
        refine e_Astep a rfl (by decide) rfl (fun M10 a => g19 a (gCx a (x_eq (E_valueOf (e_AV a X) h1 h2 (by omega) (by omega)) (x_eq (E_thingOf (e_AV a X) h2 (w := 0) rfl (by omega) (by decide)) ?_))))
        have e10 : σ (10 + 4 * t + 0) = σ (10 + 4 * t) := by rw [Nat.add_zero]
        rw [e10]
        by_cases cv : s_va σ h t = σ (10 + 4 * t)
        · rw [if_pos cv]
          exact b94 a (if_pos cv).symm rfl
        · rw [if_neg cv]
          exact b94 a (if_neg cv).symm rfl
      · rw [if_neg (mt c0.mp c), e_gO X.1, Option.bind_some, E_knowsOf X h1 h4 (by omega) (by omega), Option.bind_some]
        have ih := ih (j + 1) (i_nx h4 (by omega)) (by omega) (by omega)
        rw [cn_succ] at ih
        by_cases k : s_kn σ h j = true
        · rw [if_pos k, if_neg (by decide)]
          rw [if_pos k] at ih
          exact ih
        · rw [if_neg k, if_pos rfl]
          rw [if_neg k] at ih
          rw [show s_cn (fun o => s_kn σ h o) j + (0 : Int32) = s_cn (fun o => s_kn σ h o) j from Int32.add_zero _]
          exact ih
  delta F_X12_words F_X12_words_b0
  exact main g_fuel 0 (l4 := 0) rfl (Nat.zero_le _) (n_fu (by omega))
/-- the reference's CLAUSES -/
def r_K (f : Nat → Int32) (b : Nat) : List (Nat × Nat × Nat) → Prop
  | [] => True
  | m :: ms => (((f (b + 4 * ms.length)).toInt = (m.1 : Int) ∧ (f (b + 4 * ms.length + 1)).toInt = (m.2.1 : Int)) ∧ (f (b + 4 * ms.length + 2)).toInt = (if m.2.1 = m.2.2 then -1 else (m.2.1 : Int)) ∧ (f (b + 4 * ms.length + 3)).toInt = (m.2.2 : Int)) ∧ r_K f b ms
theorem r_K_c {f g : Nat → Int32} {b : Nat} : ∀ {ms : List (Nat × Nat × Nat)}, (∀ q, b ≤ q → q < b + 4 * ms.length → g q = f q) → r_K f b ms → r_K g b ms := by
  intro ms
  induction ms with
  | nil => intro _ _; trivial
  | cons m ms ih =>
    intro h hc
    have hl : (m :: ms).length = ms.length + 1 := rfl
    refine ⟨?_, ih (fun q h1 h2 => h q h1 (by omega)) hc.2⟩
    rw [h _ (by omega) (by omega), h _ (by omega) (by omega), h _ (by omega) (by omega), h _ (by omega) (by omega)]
    exact hc.1
theorem r_K_at {f : Nat → Int32} {b : Nat} {m : Nat × Nat × Nat} {q : Nat} : ∀ {ms : List (Nat × Nat × Nat)}, r_K f b ms → m_nth ms q = some m → ((f (b + 4 * q)).toInt = (m.1 : Int) ∧ (f (b + 4 * q + 1)).toInt = (m.2.1 : Int)) ∧ (f (b + 4 * q + 2)).toInt = (if m.2.1 = m.2.2 then -1 else (m.2.1 : Int)) ∧ (f (b + 4 * q + 3)).toInt = (m.2.2 : Int) := by
  intro ms
  induction ms with
  | nil => intro _ h; cases h
  | cons a ms ih =>
    intro K h
    unfold m_nth at h
    by_cases c : q = ms.length
    · rw [if_pos c] at h
      cases h
      rw [c]
      exact K.1
    · rw [if_neg c] at h
      exact ih K.2 h
/-- a RULE of the reference -/
def r_rl (M : gM) (t : Nat) (o : List (Nat × Int32)) (ms : List (Nat × Nat × Nat)) : Prop := ((M.2.1 180 t).toInt = (ms.length : Int) ∧ r_K (M.2.1 179) (48 * t) ms) ∧ (m_L e_r (y_sn M t) 0 o ∧ (o.length ≤ 400 ∧ ms.length ≤ 12)) ∧ m_R o ms
theorem r_rl_m {S : Nat} {M M' : gM} {t : Nat} {o : List (Nat × Int32)} {ms : List (Nat × Nat × Nat)} (R : r_rl M t o ms) (f : y_Fr S M M') (h : Nat.land S (2 ^ 42 + 2 ^ 44 + 2 ^ 45) = 0) : r_rl M' t o ms := by
  have e1 : M'.2.1 179 = M.2.1 179 := funext (fun q => y_fa (i := 179) f (by decide) (y_dis h (by decide)) q)
  have e2 : M'.2.1 180 = M.2.1 180 := funext (fun q => y_fa (i := 180) f (by decide) (y_dis h (by decide)) q)
  have e3 : y_sn M' t = y_sn M t := y_snf f (y_dis h (by decide)) t
  unfold r_rl at R ⊢
  rw [e1, e2, e3]
  exact R
theorem E_sum_b58 {w : Nat → Int64} {t q : Nat} {o g : List (Nat × Int32)} {ms : List (Nat × Nat × Nat)} {m : Nat × Nat × Nat} {v : Int64} {l1 l3 : Int32} {M : gM} (ht : l1.toInt = (t : Int)) (ht5 : t ≤ 5) (H : y_HT M) (W : e_W M w) (R : r_rl M t o ms) (h3 : l3.toInt = ((48 * t + 4 * q : Nat) : Int)) (hm : m_nth ms q = some m) (s1 : m_sg o m.1 m.2.1 g) (E : m_E w g 3 v) : Ok (F_X12_summedBy_b58 (some 175) l1 l3 M) (fun r => r.1 = v ∧ e_Fz M r.2) := by
  obtain ⟨⟨n1, K⟩, ⟨L, lo, lm⟩, RR⟩ := R
  have hlt := m_nth_lt hm
  have at4 := r_K_at K hm
  have a1 := i_addc (x := l3) (c := (1 : Int32)) (n := 1) rfl (by omega) (by omega)
  have c0 := i_cl h3
  have c1 : (l3 + (1 : Int32)).toNatClampNeg = 48 * t + 4 * q + 1 := i_cl (by omega)
  have sl := m_sg_le s1
  have sl2 : g.length + m.1 = m.2.1 := by
    obtain ⟨p, s, e1, e2, e3⟩ := s1
    exact e3
  delta F_X12_summedBy_b58
  rw [e_gR H (w := 179) rfl (by decide), Option.bind_some, e_aI H (t := 20) (i := 179) (n := 288) rfl (by decide) (by omega) (by omega), Option.bind_some, Option.bind_some, e_aI H (t := 20) (i := 179) (n := 288) rfl (by decide) (by omega) (by omega), Option.bind_some, e_gO H, Option.bind_some, c0, c1]
  refine Ok_b (E_run ht ht5 H W (m_L_sg L s1) E (by decide) at4.1.1 at4.1.2 sl2 (by omega)) (fun y z => ?_)
  obtain ⟨v5, M6⟩ := y
  exact Ok_s z
theorem r_rl_z {M M' : gM} {t : Nat} {o : List (Nat × Int32)} {ms : List (Nat × Nat × Nat)} (R : r_rl M t o ms) (f : e_Fz M M') : r_rl M' t o ms := r_rl_m R f.1.2 (by decide)
theorem lg1 {v : Int64} (h : v = 0 ∨ v = 1) : lg_cmp v (1 : Int64) = 0 ↔ v = 1 := by
  rcases h with e | e <;> subst e <;> decide
theorem E_sum_L2 {w : Nat → Int64} {t : Nat} {o : List (Nat × Int32)} {ms : List (Nat × Nat × Nat)} {q : Nat} {v : Int64} {l1 : Int32} (ht : l1.toInt = (t : Int)) (ht5 : t ≤ 5) (V : m_V w o ms q v) : ∀ (n : Nat) {l2 : Int32} {M : gM}, y_HT M → e_W M w → r_rl M t o ms → q ≤ 12 → l2.toInt = (q : Int) → 13 < n + q → Ok (F_X12_summedBy_L2 n (some 175) l1 l2 M) (fun r => r.1 = v ∧ e_Fz M r.2) := by
  -- the places of a CLAUSE
  have pl : ∀ {q : Nat} {l2 : Int32}, q ≤ 12 → l2.toInt = (q : Int) → ((((48 : Int32) * l1) + ((4 : Int32) * l2)).toInt = ((48 * t + 4 * q : Nat) : Int)) ∧ ((((48 : Int32) * l1) + ((4 : Int32) * l2)) + (2 : Int32)).toInt = ((48 * t + 4 * q + 2 : Nat) : Int) ∧ ((((48 : Int32) * l1) + ((4 : Int32) * l2)) + (3 : Int32)).toInt = ((48 * t + 4 * q + 3 : Nat) : Int) := by
    intro q l2 hq h2
    have a1 := i_mulL (c := (48 : Int32)) (x := l1) (n := 48) rfl (by omega) (by omega)
    have a2 := i_mulL (c := (4 : Int32)) (x := l2) (n := 4) rfl (by omega) (by omega)
    have a3 := i_add (x := (48 : Int32) * l1) (y := (4 : Int32) * l2) (by omega) (by omega)
    have a4 := i_addc (x := (48 : Int32) * l1 + (4 : Int32) * l2) (c := (2 : Int32)) (n := 2) rfl (by omega) (by omega)
    have a5 := i_addc (x := (48 : Int32) * l1 + (4 : Int32) * l2) (c := (3 : Int32)) (n := 3) rfl (by omega) (by omega)
    omega
  -- the head of a round
  have hd : ∀ {q n : Nat} {l2 : Int32} {M : gM} {m : Nat × Nat × Nat} {Q : Int64 × gM → Prop}, y_HT M → r_rl M t o ms → q ≤ 12 → l2.toInt = (q : Int) → m_nth ms q = some m →
      (m.2.1 = m.2.2 → Ok (F_X12_summedBy_b58 (some 175) l1 (((48 : Int32) * l1) + ((4 : Int32) * l2)) M) Q) →
      (m.2.1 ≠ m.2.2 → ∀ x y : Int32, x.toInt = (m.2.1 : Int) → y.toInt = (m.2.2 : Int) → Ok ((F_X12_reckons (some 175) l1 x y M).bind fun (v10, M11) => if (lg_cmp v10 (1 : Int64)) = 0 then (F_X12_summedBy_b58 (some 175) l1 (((48 : Int32) * l1) + ((4 : Int32) * l2)) M11) else (F_X12_summedBy_L2 n (some 175) l1 (l2 + 1) M11)) Q) →
      Ok (F_X12_summedBy_L2 (n + 1) (some 175) l1 l2 M) Q := by
    intro q n l2 M m Q H R hq h2 hm g1 g2
    obtain ⟨⟨n1, K⟩, ⟨L, lo, lm⟩, RR⟩ := R
    have hlt := m_nth_lt hm
    obtain ⟨⟨k1, k2⟩, k3, k4⟩ := r_K_at K hm
    obtain ⟨p0, p2, p3⟩ := pl hq h2
    have q2 := i_cl p2
    have q3 := i_cl p3
    have z0 : (0 : Int32).toInt = 0 := rfl
    show Ok (F_X12_summedBy_b2 (F_X12_summedBy_L2 n) (some 175) l1 l2 M) Q
    delta F_X12_summedBy_b2
    rw [e_gR H (w := 180) rfl (by decide), Option.bind_some, e_aI H (t := 20) (i := 180) (n := 6) rfl (by decide) (by omega) (by omega), Option.bind_some, i_cl ht, if_neg (fun z => by have := i_le z; omega)]
    rw [e_gR H (w := 179) rfl (by decide), Option.bind_some, e_aI H (t := 20) (i := 179) (n := 288) rfl (by decide) (by omega) (by omega), Option.bind_some, q2]
    by_cases c : m.2.1 = m.2.2
    · rw [if_pos c] at k3
      rw [if_pos (Int32.lt_iff_toInt_lt.mpr (by omega))]
      exact g1 c
    · rw [if_neg c] at k3
      rw [if_neg (fun z => by have := i_lt z; omega), Option.bind_some, e_aI H (t := 20) (i := 179) (n := 288) rfl (by decide) (by omega) (by omega), Option.bind_some, Option.bind_some, e_aI H (t := 20) (i := 179) (n := 288) rfl (by decide) (by omega) (by omega), Option.bind_some, e_gO H, Option.bind_some, q2, q3]
      exact g2 c _ _ k3 k4
  have seg : ∀ {g : List (Nat × Int32)} {a b : Nat}, m_sg o a b g → g.length + a = b := fun s => by
    obtain ⟨p, s, e1, e2, e3⟩ := s
    exact e3
  refine m_Vi (q := q) (v := v) (P := fun q v => ∀ (n : Nat) {l2 : Int32} {M : gM}, y_HT M → e_W M w → r_rl M t o ms → q ≤ 12 → l2.toInt = (q : Int) → 13 < n + q → Ok (F_X12_summedBy_L2 n (some 175) l1 l2 M) (fun r => r.1 = v ∧ e_Fz M r.2)) ?_ ?_ ?_ ?_ V
  · intro q hq n l2 M H W R hq12 h2 hn
    obtain ⟨n, rfl⟩ : ∃ m, n = m + 1 := ⟨n - 1, by omega⟩
    have n1 := R.1.1
    show Ok (F_X12_summedBy_b2 (F_X12_summedBy_L2 n) (some 175) l1 l2 M) _
    delta F_X12_summedBy_b2
    rw [e_gR H (w := 180) rfl (by decide), Option.bind_some, e_aI H (t := 20) (i := 180) (n := 6) rfl (by decide) (by omega) (by omega), Option.bind_some, i_cl ht, if_pos (Int32.le_iff_toInt_le.mpr (by omega))]
    exact Ok_s ⟨rfl, e_zr H⟩
  · intro q m g v hm h0 s1 E n l2 M H W R hq12 h2 hn
    obtain ⟨n, rfl⟩ : ∃ m, n = m + 1 := ⟨n - 1, by omega⟩
    exact hd H R hq12 h2 hm (fun _ => E_sum_b58 ht ht5 H W R (pl hq12 h2).1 hm s1 E) (fun c => absurd h0 c)
  · intro q m g g2 v hm h0 s2 E2 s1 E n l2 M H W R hq12 h2 hn
    obtain ⟨n, rfl⟩ : ∃ m, n = m + 1 := ⟨n - 1, by omega⟩
    have sl := m_sg_le s2
    refine hd H R hq12 h2 hm (fun c => absurd c h0) (fun _ x y hx hy => ?_)
    refine Ok_b (E_run ht ht5 H W (m_L_sg R.2.1.1 s2) E2 (by decide) hx hy (seg s2) (by have := R.2.1.2.1; omega)) (fun r z => ?_)
    obtain ⟨v5, M6⟩ := r
    obtain ⟨e5, f6⟩ := z
    dsimp only at e5 f6 ⊢
    subst e5
    rw [if_pos (by decide)]
    exact Ok_w (E_sum_b58 ht ht5 f6.1.1 (e_Wz W f6) (r_rl_z R f6) (pl hq12 h2).1 hm s1 E) (fun r z => ⟨z.1, e_zt f6 z.2⟩)
  · intro q m g2 v hm h0 s2 E2 ih n l2 M H W R hq12 h2 hn
    obtain ⟨n, rfl⟩ : ∃ m, n = m + 1 := ⟨n - 1, by omega⟩
    have sl := m_sg_le s2
    have hlt := m_nth_lt hm
    have lm := R.2.1.2.2
    refine hd H R hq12 h2 hm (fun c => absurd c h0) (fun _ x y hx hy => ?_)
    refine Ok_b (E_run ht ht5 H W (m_L_sg R.2.1.1 s2) E2 (by decide) hx hy (seg s2) (by have := R.2.1.2.1; omega)) (fun r z => ?_)
    obtain ⟨v5, M6⟩ := r
    obtain ⟨e5, f6⟩ := z
    dsimp only at e5 f6 ⊢
    subst e5
    rw [if_neg (by decide)]
    exact Ok_w (ih n f6.1.1 (e_Wz W f6) (r_rl_z R f6) (by omega) (i_nx h2 (by omega)) (by omega)) (fun r z => ⟨z.1, e_zt f6 z.2⟩)
theorem E_summedBy {w : Nat → Int64} {t : Nat} {o : List (Nat × Int32)} {ms : List (Nat × Nat × Nat)} {v : Int64} {l1 : Int32} {M : gM} (ht : l1.toInt = (t : Int)) (ht5 : t ≤ 5) (H : y_HT M) (W : e_W M w) (R : r_rl M t o ms) (V : m_V w o ms 0 v) : Ok (F_X12_summedBy (some 175) l1 M) (fun r => r.1 = v ∧ e_Fz M r.2) := by
  delta F_X12_summedBy F_X12_summedBy_b0
  exact E_sum_L2 ht ht5 V g_fuel (l2 := (0 : Int32)) H W R (by decide) rfl (by have : g_fuel = 1000000000 := rfl; omega)
