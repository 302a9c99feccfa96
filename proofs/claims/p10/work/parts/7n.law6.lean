/-! the rule in force, x and the IMAGES' own, of both -/
def lw_gP (M : gM) : Prop := (M.2.1 2 13 = M.2.1 175 21 ∧ M.2.1 2 14 = M.2.1 175 22) ∧ ∀ k, k < 4 → ((M.2.2.2 (151 + 6 * k) 1 ≠ none ↔ M.2.1 196 k ≠ 0) ∧ M.2.1 (151 + 6 * k) 3 = M.2.1 195 k) ∧ (M.2.1 196 k ≠ 0 → M.2.1 (151 + 6 * k) 2 = M.2.1 194 k)
def lw6 (L : Nat) (M : gM) : Prop := lw_R L M ∧ lw_gP M
def g6_C (M M' : gM) : Prop := (M'.2.1 2 13 = M.2.1 2 13 ∧ M'.2.1 2 14 = M.2.1 2 14) ∧ ∀ k, k < 4 → (M'.2.2.2 (151 + 6 * k) 1 = M.2.2.2 (151 + 6 * k) 1 ∧ M'.2.1 (151 + 6 * k) 3 = M.2.1 (151 + 6 * k) 3) ∧ M'.2.1 (151 + 6 * k) 2 = M.2.1 (151 + 6 * k) 2
def g6_E (M M' : gM) : Prop := (M'.2.1 175 21 = M.2.1 175 21 ∧ M'.2.1 175 22 = M.2.1 175 22) ∧ (M'.2.1 196 = M.2.1 196 ∧ M'.2.1 195 = M.2.1 195) ∧ M'.2.1 194 = M.2.1 194
theorem g6_of {M M' : gM} (G : lw_gP M) (c : g6_C M M') (e : g6_E M M') : lw_gP M' := by
  obtain ⟨⟨a1, a2⟩, a3⟩ := G
  obtain ⟨⟨b1, b2⟩, b3⟩ := c
  obtain ⟨⟨c1, c2⟩, ⟨c3, c4⟩, c5⟩ := e
  refine ⟨⟨by rw [b1, c1, a1], by rw [b2, c2, a2]⟩, fun k hk => ?_⟩
  obtain ⟨⟨d1, d2⟩, d3⟩ := b3 k hk
  rw [d1, d2, d3, c3, c4, c5]
  exact a3 k hk
theorem lw_im {M : gM} (Q : q_HT 0 M) (K : q_Kd M 2 (11, 0)) (I : q_Im M) : ∀ k, k < 4 → q_Kd M (151 + 6 * k) (3, 0) := by
  intro k hk
  have K1 := lw_k121 Q K I
  have h9 := (Q.2 121 K1.1 (by decide) k).1
  rw [K1.2, show q_tR (26, 4) k = (1, 3, 0) from if_pos hk, I.2 k hk] at h9
  rcases h9 with (h9 | ⟨h9, j, e, Kj⟩) | (⟨h9, h2⟩ | ⟨h9, h2⟩)
  · exact absurd h9 (by simp)
  · cases e
    exact Kj
  · exact absurd h9 (by simp)
  · exact absurd h9 (by simp)
/-- a call of the class -/
theorem g6_cC {b : Nat → Bool} {L : Nat} {M M' : gM} (R : lw_B L M) (f : q_Fr b M M') (h13 : M'.2.1 2 13 = M.2.1 2 13) (h14 : M'.2.1 2 14 = M.2.1 2 14) : g6_C M M' := by
  obtain ⟨⟨⟨Q, Y⟩, W⟩, ⟨⟨K, I⟩, k0⟩, Z⟩ := R
  have hl := Q.1.1
  refine ⟨⟨h13, h14⟩, fun k hk => ?_⟩
  have Ka := lw_im Q K I k hk
  exact ⟨⟨f.2.2.2 (151 + 6 * k) (by omega) 1 (by rw [Ka.2]; rfl), f.2.2.1 (151 + 6 * k) (by omega) 3 (by rw [Ka.2]; rfl)⟩, f.2.2.1 (151 + 6 * k) (by omega) 2 (by rw [Ka.2]; rfl)⟩
theorem g6_b {b : Nat → Bool} {k L : Nat} {M M' : gM} (R : lw_B L M) (f : q_Fr b M M') (h : b k = true) : M'.2.1 2 k = M.2.1 2 k := by
  have K := R.2.1.1.1
  have hl := R.1.1.1.1.1
  refine f.2.2.1 2 (by omega) k ?_
  rw [K.2]
  unfold q_pI
  simp [h]
theorem g6_cE {b : Nat → Bool} {a : Nat} {M M' : gM} (f : q_Fx b a M M') : g6_E M M' := by
  have r := lw_rc f
  exact ⟨⟨by rw [r 175 (by decide)], by rw [r 175 (by decide)]⟩, ⟨r 196 (by decide), r 195 (by decide)⟩, r 194 (by decide)⟩
theorem g6_rC {S : Nat} {M M' : gM} (f : y_Fr S M M') : g6_C M M' := by
  have r := lw_rr f
  refine ⟨⟨by rw [r 2 (by decide)], by rw [r 2 (by decide)]⟩, fun k hk => ?_⟩
  have e := r (151 + 6 * k) (by show ¬ (175 ≤ 151 + 6 * k ∧ 151 + 6 * k ≤ 196); omega)
  exact ⟨⟨by rw [f.1.2], by rw [e]⟩, by rw [e]⟩
theorem g6_rE {S : Nat} {M M' : gM} (f : y_Fr S M M') (h : Nat.land S (2 ^ 21 + 2 ^ 22 + 2 ^ 59 + 2 ^ 60 + 2 ^ 61) = 0) : g6_E M M' :=
  ⟨⟨y_fk (i := 175) (k := 21) f (y_dis h (by decide)), y_fk (i := 175) (k := 22) f (y_dis h (by decide))⟩, ⟨funext (fun q => y_fa (i := 196) f (by decide) (y_dis h (by decide)) q), funext (fun q => y_fa (i := 195) f (by decide) (y_dis h (by decide)) q)⟩, funext (fun q => y_fa (i := 194) f (by decide) (y_dis h (by decide)) q)⟩
/-! calls, one behind the other -/
theorem lw6_cPI {b : Nat → Bool} {L : Nat} {lo hi : Int} {M : gM} {o : Option (Int32 × gM)} {β : Type} {f : Int32 × gM → Option β} {Q : β → Prop} (R : lw6 L M) (h1 : b 12 = true) (h2 : b 100 = true) (h3 : b 101 = true) (h13 : b 13 = true) (h14 : b 14 = true) (h : Ok o (q_PI b M lo hi)) (k : ∀ v M', lw6 L M' → M'.2.1 0 = M.2.1 0 → Ok (f (v, M')) Q) : Ok (o.bind f) Q := by
  refine Ok_b h (fun r z => ?_)
  obtain ⟨v, M'⟩ := r
  have fx := q_Fx_of (a := 151) z.2.2
  exact k v M' ⟨lw_cls R.1 z.2.1 z.2.2 h1 h2 h3, g6_of R.2 (g6_cC R.1.1 z.2.2 (g6_b R.1.1 z.2.2 h13) (g6_b R.1.1 z.2.2 h14)) (g6_cE fx)⟩ (lw_s_cls fx)
theorem lw6_cPX {L : Nat} {lo hi : Int} {M : gM} {o : Option (Int32 × gM)} {β : Type} {f : Int32 × gM → Option β} {Q : β → Prop} (R : lw6 L M) (h : Ok o (q_PX M lo hi 2 (M.2.1 2 14))) (k : ∀ v M', lw6 L M' → M'.2.1 0 = M.2.1 0 → Ok (f (v, M')) Q) : Ok (o.bind f) Q := by
  refine Ok_b h (fun r z => ?_)
  obtain ⟨v, M'⟩ := r
  have fx := q_Fx_of (a := 151) z.1.2.2
  exact k v M' ⟨lw_cls R.1 z.1.2.1 z.1.2.2 rfl rfl rfl, g6_of R.2 (g6_cC R.1.1 z.1.2.2 (g6_b R.1.1 z.1.2.2 rfl) z.2) (g6_cE fx)⟩ (lw_s_cls fx)
theorem lw6_rPI {S L : Nat} {lo hi : Int} {M : gM} {o : Option (Int32 × gM)} {β : Type} {f : Int32 × gM → Option β} {Q : β → Prop} (R : lw6 L M) (hW : Nat.land S y_wb = 0) (hS : Nat.land S (2 ^ 1 + 2 ^ 2 + 2 ^ 41) = 0) (h6 : Nat.land S (2 ^ 21 + 2 ^ 22 + 2 ^ 59 + 2 ^ 60 + 2 ^ 61) = 0) (h : Ok o (y_PI S M lo hi)) (k : ∀ v M', lw6 L M' → M'.2.1 0 = M.2.1 0 → Ok (f (v, M')) Q) : Ok (o.bind f) Q := by
  refine Ok_b h (fun r z => ?_)
  obtain ⟨v, M'⟩ := r
  exact k v M' ⟨lw_refW R.1 z.2.1 z.2.2 hW hS, g6_of R.2 (g6_rC z.2.2) (g6_rE z.2.2 h6)⟩ (lw_s_ref z.2.2)
/-! calls of both, side by side -/
def lw_21 (L : Nat) (M : gM) (o1 : Option (Int32 × gM)) (o2 : gM → Option (Int32 × gM)) : Prop := ∃ w1 w2 M1 M2, (o1 = some (w1, M1) ∧ lw_B L M1 ∧ M1.2.1 0 = M.2.1 0) ∧ o2 M1 = some (w2, M2) ∧ lw6 L M2 ∧ M2.2.1 0 = M.2.1 0
def lw_22 (L : Nat) (M : gM) (o1 : Option (Int32 × gM)) (o2 : gM → Option (Int32 × gM)) : Prop := ∃ w M1 M2, (o1 = some (w, M1) ∧ lw_B L M1 ∧ M1.2.1 0 = M.2.1 0) ∧ o2 M1 = some (w, M2) ∧ lw6 L M2 ∧ M2.2.1 0 = M.2.1 0
theorem lw6_both {b : Nat → Bool} {S L : Nat} {M M1 M2 : gM} (R : lw6 L M) (f1 : q_Fr b M M1) (h13 : b 13 = true) (h14 : b 14 = true) (f2 : y_Fr S M1 M2) (h6 : Nat.land S (2 ^ 21 + 2 ^ 22 + 2 ^ 59 + 2 ^ 60 + 2 ^ 61) = 0) (R2 : lw_R L M2) : lw6 L M2 := by
  have G1 : lw_gP M1 := g6_of R.2 (g6_cC R.1.1 f1 (g6_b R.1.1 f1 h13) (g6_b R.1.1 f1 h14)) (g6_cE (q_Fx_of (a := 151) f1))
  exact ⟨R2, g6_of G1 (g6_rC f2) (g6_rE f2 h6)⟩
theorem o_eq {α : Type} {o : Option α} {a b : α} (h1 : o = some a) (h2 : o = some b) : a = b := Option.some.inj (h1.symm.trans h2)
theorem lw6_feed {L : Nat} {v1 v2 v3 v4 v5 : Int32} {M : gM} (R : lw6 L M) : lw_22 L M (F_X11_feed (some 2) v1 v2 v3 v4 v5 M) (F_X12_feed (some 175) v1 v2 v3 v4 v5) := by
  obtain ⟨w, M1, M2, ⟨e1, B1, s1⟩, e2, R2, s2⟩ := lw_feed (v1 := v1) (v2 := v2) (v3 := v3) (v4 := v4) (v5 := v5) R.1
  obtain ⟨r1, er1, z1⟩ := S_X11_feed (l1 := v1) (l2 := v2) (l3 := v3) (l4 := v4) (l5 := v5) R.1.1.1.1.1 R.1.1.2.1.1.1
  have x1 := o_eq er1 e1
  subst x1
  obtain ⟨r2, er2, z2⟩ := S_X12_feed (l1 := v1) (l2 := v2) (l3 := v3) (l4 := v4) (l5 := v5) B1.1.1.2
  have x2 := o_eq er2 e2
  subst x2
  exact ⟨w, M1, M2, ⟨e1, B1, s1⟩, e2, lw6_both R z1.2.2 rfl rfl z2.2.2 (by decide) R2, s2⟩
theorem lw6_end {L : Nat} {l : Int32} {M : gM} (R : lw6 L M) : lw_22 L M (F_X11_end (some 2) l M) (F_X12_end (some 175) l) := by
  obtain ⟨w, M1, M2, ⟨e1, B1, s1⟩, e2, R2, s2⟩ := lw_end (l := l) R.1
  obtain ⟨r1, er1, z1⟩ := S_X11_end (l1 := l) R.1.1.1.1.1 R.1.1.2.1.1.1
  have x1 := o_eq er1 e1
  subst x1
  obtain ⟨r2, er2, z2⟩ := S_X12_end (l1 := l) B1.1.1.2
  have x2 := o_eq er2 e2
  subst x2
  exact ⟨w, M1, M2, ⟨e1, B1, s1⟩, e2, lw6_both R z1.2.2 rfl rfl z2.2.2 (by decide) R2, s2⟩
theorem lw6_rule {L : Nat} {M : gM} (R : lw6 L M) : lw_22 L M (F_X11_rule (some 2) M) (F_X12_rule (some 175)) := by
  obtain ⟨w, M1, M2, ⟨e1, B1, s1⟩, e2, R2, s2⟩ := lw_rule R.1
  obtain ⟨r1, er1, z1⟩ := S_X11_rule R.1.1.1.1.1 R.1.1.2.1.1.1
  have x1 := o_eq er1 e1
  subst x1
  obtain ⟨r2, er2, z2⟩ := S_X12_rule B1.1.1.2 B1.1.2
  have x2 := o_eq er2 e2
  subst x2
  exact ⟨w, M1, M2, ⟨e1, B1, s1⟩, e2, lw6_both R z1.2.2 rfl rfl z2.1.2 (by decide) R2, s2⟩
theorem lw6_house {L : Nat} {M : gM} (R : lw6 L M) : lw_21 L M (F_X11_house (some 2) M) (F_X12_house (some 175)) := by
  obtain ⟨w1, w2, M1, M2, ⟨e1, B1, s1⟩, e2, R2, s2⟩ := lw_house R.1
  obtain ⟨r1, er1, z1⟩ := S_X11_house R.1.1.1.1.1 R.1.1.2.1.1.1
  have x1 := o_eq er1 e1
  subst x1
  obtain ⟨r2, er2, z2⟩ := S_X12_house B1.1.1.2
  have x2 := o_eq er2 e2
  subst x2
  exact ⟨w1, w2, M1, M2, ⟨e1, B1, s1⟩, e2, lw6_both R z1.2.2 rfl rfl z2.2 (by decide) R2, s2⟩
theorem g6_tc {L : Nat} {M M2 : gM} (R : lw_R L M) (h : ∀ i k, (i = 132 ∨ (i = 131 ∧ k = 6)) ∨ (i = 2 ∧ k = 12) ∨ (i = 176 ∨ (i = 175 ∧ k = 1)) ∨ (i = 175 ∧ k = 2) → M2.2.1 i k = M.2.1 i k) (B2 : lw_B L M2) : lw_R L M2 := by
  have e132 : M2.2.1 132 = M.2.1 132 := funext (fun k => h 132 k (by omega))
  have e176 : M2.2.1 176 = M.2.1 176 := funext (fun k => h 176 k (by omega))
  refine ⟨B2, ⟨?_, ?_⟩, ?_, ?_⟩
  · rw [e132, e176]
    exact R.2.1.1
  · rw [h 131 6 (by omega), h 175 1 (by omega)]
    exact R.2.1.2
  · rw [h 2 12 (by omega), h 175 2 (by omega)]
    exact R.2.2.1
  · rw [e176]
    exact R.2.2.2
theorem lw6_force {L : Nat} {l : Int32} {M : gM} (R : lw6 L M) : lw_22 L M (F_X11_force (some 2) l M) (F_X12_force (some 175) l) := by
  have K := R.1.1.2.1.1.1
  have E1 := C_force (l := l) K.2
  have rc2 := R.1.2.2.1
  have hr : 0 ≤ (M.2.1 175 2).toInt := (R.1.1.1.1.2.2.1 175 (by decide) 2).1
  have m1 : (-1 : Int32).toInt = -1 := rfl
  have z0 : (0 : Int32).toInt = 0 := rfl
  by_cases c0 : l < -1
  · rw [if_pos c0] at E1
    have c0' := i_lt c0
    have E2 := E_force (l := l) R.1.1.1.1.2
    rw [if_neg (fun e => by rw [e] at c0'; omega), if_pos (Int32.lt_iff_toInt_lt.mpr (by omega))] at E2
    exact ⟨_, M, M, ⟨E1, R.1.1, rfl⟩, E2, R, rfl⟩
  have c0' := i_nlt c0
  rw [if_neg c0] at E1
  by_cases c1 : l < M.2.1 2 12
  · have c1' := i_lt c1
    rw [if_pos c1] at E1
    obtain ⟨r1, er1, z1⟩ := S_X11_force (l1 := l) R.1.1.1.1.1 K
    have x1 := o_eq er1 E1
    subst x1
    have f1 := q_Fx_of (a := 151) z1.2.2
    have B1 := lw_Bc R.1.1 z1.2.1 f1 (by decide)
    have rc := lw_rc f1
    dsimp only at f1 B1 rc
    obtain ⟨r2, er2, z2, W2⟩ := S_X12_force (l1 := l) B1.1.1.2 B1.1.2
    have E2 := E_force (l := l) B1.1.1.2
    have E3 : F_X12_force (some 175) l (mI M 2 13 l) = some (M.2.1 2 13, mI (mI M 2 13 l) 175 21 l) := by
      rw [E2, rc 175 (by decide), ← R.2.1.1, ← rc2]
      by_cases c2 : l = -1
      · rw [if_pos c2]
      · have : l.toInt ≠ -1 := fun e => c2 (Int32.toInt_inj.mp e)
        rw [if_neg c2, if_neg (fun z => by have := i_lt z; omega), if_neg (fun z => by have := i_le z; omega)]
    have x2 := o_eq er2 E3
    subst x2
    have f2 := z2.2.2
    have B2 := lw_Br B1 z2.2.1 f2 W2
    dsimp only at f2 B2
    have rr := lw_rr f2
    refine ⟨_, _, _, ⟨E1, B1, lw_s_cls f1⟩, E3, ⟨g6_tc R.1 (fun i k h => by rw [mI_ne (by omega), mI_ne (by omega)]) B2, ⟨?_, ?_⟩, fun k hk => ?_⟩, (lw_s_ref f2).trans (lw_s_cls f1)⟩
    · rw [y_mI1, mI_ne (Or.inl (by decide)), y_mI1]
    · rw [mI_ne (Or.inl (by decide)), mI_ne (Or.inr (by decide)), mI_ne (Or.inr (by decide)), mI_ne (Or.inl (by decide))]
      exact R.2.1.2
    · rw [mI_ne (j := 151 + 6 * k) (a := 3) (by omega), mI_ne (j := 151 + 6 * k) (a := 3) (by omega), mI_ne (j := 151 + 6 * k) (a := 2) (by omega), mI_ne (j := 151 + 6 * k) (a := 2) (by omega), mI_ne (j := 196) (by omega), mI_ne (j := 196) (by omega), mI_ne (j := 195) (by omega), mI_ne (j := 195) (by omega), mI_ne (j := 194) (by omega), mI_ne (j := 194) (by omega)]
      exact R.2.2 k hk
  · have c1' := i_nlt c1
    rw [if_neg c1] at E1
    have E2 := E_force (l := l) R.1.1.1.1.2
    rw [← rc2] at E2 hr
    rw [if_neg (fun e => by rw [e] at c1'; omega), if_neg (fun z => by have := i_lt z; omega), if_pos (Int32.le_iff_toInt_le.mpr (by omega))] at E2
    exact ⟨_, M, M, ⟨E1, R.1.1, rfl⟩, E2, R, rfl⟩
theorem lw6_seed {L : Nat} {l : Int32} {M : gM} (R : lw6 L M) : lw_22 L M (F_X11_seed (some 2) l M) (F_X12_seed (some 175) l) := by
  have K := R.1.1.2.1.1.1
  have E1 := S_X11_seed (l1 := l) K
  have z0 : (0 : Int32).toInt = 0 := rfl
  by_cases h : 0 ≤ l
  · have h' := i_le h
    rw [if_pos h] at E1
    obtain ⟨H1, f1⟩ := q_seedHT (l1 := l) R.1.1.1.1.1 K (by omega)
    have fx := q_Fx_of (a := 151) f1
    have B1 := lw_Bc R.1.1 H1 fx (by decide)
    have rc := lw_rc fx
    obtain ⟨⟨v, M2⟩, er, ⟨⟨H2, f2⟩, v2, x2⟩⟩ := S_X12_seed (l1 := l) B1.1.1.2
    rw [if_pos h] at v2 x2
    dsimp only at v2 x2 H2 f2
    have B2 := lw_Br B1 H2 f2 (y_Wf f2 (by decide) B1.1.2)
    have R1 : lw_R L (mI M 2 14 l) := lw_cls R.1 H1 f1 rfl rfl rfl
    have R2 : lw_R L M2 := lw_refW R1 H2 f2 (by decide) (by decide)
    have rr := lw_rr f2
    have ev : v = M.2.1 2 14 := by rw [v2, rc 175 (by decide), R.2.1.2]
    subst ev
    refine ⟨_, _, _, ⟨E1, B1, lw_s_cls fx⟩, er, ⟨R2, ⟨?_, ?_⟩, fun k hk => ?_⟩, (lw_s_ref f2).trans (lw_s_cls fx)⟩
    · rw [rr 2 (by decide), y_fk (i := 175) (k := 21) f2 (by decide), rc 175 (by decide), mI_ne (Or.inr (by decide))]
      exact R.2.1.1
    · rw [rr 2 (by decide), x2, y_mI1]
    · rw [f2.1.2, rr (151 + 6 * k) (by show ¬ (175 ≤ 151 + 6 * k ∧ 151 + 6 * k ≤ 196); omega), y_fa (i := 196) f2 (by decide) (by decide), y_fa (i := 195) f2 (by decide) (by decide), y_fa (i := 194) f2 (by decide) (by decide), rc 196 (by decide), rc 195 (by decide), rc 194 (by decide), mI_ne (j := 151 + 6 * k) (a := 3) (by omega), mI_ne (j := 151 + 6 * k) (a := 2) (by omega)]
      exact R.2.2 k hk
  · rw [if_neg h] at E1
    obtain ⟨⟨v, M2⟩, er, ⟨⟨H2, f2⟩, v2, x2⟩⟩ := S_X12_seed (l1 := l) R.1.1.1.1.2
    rw [if_neg h] at v2 x2
    dsimp only at v2 x2 H2 f2
    have R2 : lw_R L M2 := lw_refW R.1 H2 f2 (by decide) (by decide)
    have rr := lw_rr f2
    subst v2
    refine ⟨_, _, _, ⟨E1, R.1.1, rfl⟩, er, ⟨R2, ⟨?_, ?_⟩, fun k hk => ?_⟩, lw_s_ref f2⟩
    · rw [rr 2 (by decide), y_fk (i := 175) (k := 21) f2 (by decide)]
      exact R.2.1.1
    · rw [rr 2 (by decide), x2]
      exact R.2.1.2
    · rw [f2.1.2, rr (151 + 6 * k) (by show ¬ (175 ≤ 151 + 6 * k ∧ 151 + 6 * k ≤ 196); omega), y_fa (i := 196) f2 (by decide) (by decide), y_fa (i := 195) f2 (by decide) (by decide), y_fa (i := 194) f2 (by decide) (by decide)]
      exact R.2.2 k hk
theorem lw6_image {L : Nat} {l : Int32} {M : gM} (R : lw6 L M) : lw_21 L M (F_X11_image (some 2) l M) (F_X12_image (some 175) l) := by
  obtain ⟨⟨⟨Q, Y⟩, W⟩, ⟨⟨K, I⟩, k0⟩, Z⟩ := R.1.1
  have hl := Q.1.1
  obtain ⟨⟨v1, M1⟩, e1, z1, z2⟩ := S_X11_image (l1 := l) Q K I
  dsimp only at z1 z2
  by_cases c : 0 ≤ l.toInt ∧ l.toInt ≤ 3
  · obtain ⟨H1, f1, ⟨e, he⟩, hx, hf⟩ := z2 c
    obtain ⟨n, hn⟩ : ∃ n : Nat, l.toInt = (n : Int) := ⟨l.toInt.toNat, by omega⟩
    have hc : l.toNatClampNeg = n := i_cl hn
    rw [hc] at f1 he hx hf
    have hn4 : n < 4 := by omega
    have B1 := lw_Bc R.1.1 H1 f1 (by omega)
    have rc := lw_rc f1
    obtain ⟨⟨v2, M2⟩, e2, ⟨⟨Y2, f2⟩, W2, _, z3⟩, _, z4⟩ := Ok_and (S_X12_image (l1 := l) B1.1.1.2 B1.1.2) (E_image (l1 := l) B1.1.1.2)
    obtain ⟨⟨a1, a2⟩, a3⟩ := z3 c
    obtain ⟨_, b1, b2⟩ := z4 n hn (by omega)
    rw [hc] at a1 a2 a3
    dsimp only at Y2 f2 W2 a1 a2 a3 b1 b2
    have B2 := lw_Br B1 Y2 f2 W2
    have rr := lw_rr f2
    have R1 : lw_R L M1 := ⟨B1, lw_tc R.1.1 R.1.2 f1 (by omega) rfl rfl rfl⟩
    have R2 : lw_R L M2 := ⟨B2, lw_tr R1.2 f2 (by decide)⟩
    have o : ∀ k, q_ba k = true → M1.2.1 2 k = M.2.1 2 k := fun k hk => f1.2.2.1 2 (by omega) (by omega) k (by rw [K.2]; unfold q_pI; simp [hk])
    refine ⟨v1, v2, M1, M2, ⟨e1, B1, lw_s_cls f1⟩, e2, ⟨R2, ⟨?_, ?_⟩, fun k hk => ?_⟩, (lw_s_ref f2).trans (lw_s_cls f1)⟩
    · rw [rr 2 (by decide), o 13 rfl, y_fk (i := 175) (k := 21) f2 (by decide), rc 175 (by decide)]
      exact R.2.1.1
    · rw [rr 2 (by decide), o 14 rfl, y_fk (i := 175) (k := 22) f2 (by decide), rc 175 (by decide)]
      exact R.2.1.2
    · rw [f2.1.2, rr (151 + 6 * k) (by show ¬ (175 ≤ 151 + 6 * k ∧ 151 + 6 * k ≤ 196); omega)]
      by_cases ek : k = n
      · subst ek
        rw [he, a1, hx, hf, a2, b1, rc 175 (by decide)]
        exact ⟨⟨⟨fun _ => by decide, fun _ => by simp⟩, R.2.1.2⟩, fun _ => R.2.1.1⟩
      · obtain ⟨d1, d2⟩ := a3 k ek
        have Ka := lw_im Q K I k hk
        rw [d1, d2, b2 k ek, rc 196 (by decide), rc 195 (by decide), rc 194 (by decide), f1.2.2.2 (151 + 6 * k) (by omega) (by omega) 1 (by rw [Ka.2]; rfl), f1.2.2.1 (151 + 6 * k) (by omega) (by omega) 3 (by rw [Ka.2]; rfl), f1.2.2.1 (151 + 6 * k) (by omega) (by omega) 2 (by rw [Ka.2]; rfl)]
        exact R.2.2 k hk
  · have h1 := z1 c
    subst h1
    obtain ⟨⟨v2, M2⟩, e2, z3, _⟩ := E_image (l1 := l) Y
    have h2 := z3 c
    cases h2
    exact ⟨v1, _, _, _, ⟨e1, R.1.1, rfl⟩, e2, R, rfl⟩
theorem lw6_back {L : Nat} {l : Int32} {M : gM} (R : lw6 L M) : lw_21 L M (F_X11_back (some 2) l M) (F_X12_back (some 175) l) := by
  obtain ⟨⟨⟨Q, Y⟩, W⟩, ⟨⟨K, I⟩, k0⟩, Z⟩ := R.1.1
  have hl := Q.1.1
  obtain ⟨⟨v1, M1⟩, e1, z1, z2⟩ := S_X11_back (l1 := l) Q K I
  dsimp only at z1 z2
  by_cases c : (0 ≤ l.toInt ∧ l.toInt ≤ 3) ∧ M.2.2.2 (151 + 6 * l.toNatClampNeg) 1 ≠ none
  · obtain ⟨H1, f1, hx, hf⟩ := z2 c
    obtain ⟨n, hn⟩ : ∃ n : Nat, l.toInt = (n : Int) := ⟨l.toInt.toNat, by omega⟩
    have hc : l.toNatClampNeg = n := i_cl hn
    rw [hc] at hx hf c
    have hn4 : n < 4 := by omega
    have fx := q_Fx_of (a := 151) f1
    have B1 := lw_Bc R.1.1 H1 fx (by decide)
    have rc := lw_rc fx
    have m1 : M1.2.1 196 n ≠ 0 := by
      rw [rc 196 (by decide)]
      exact (R.2.2 n hn4).1.1.mp c.2
    obtain ⟨⟨v2, M2⟩, e2, ⟨⟨Y2, f2⟩, W2, _, z3⟩, _, z4⟩ := Ok_and (S_X12_back (l1 := l) B1.1.1.2 B1.1.2) (E_back (l1 := l) B1.1.1.2 B1.1.2)
    have a1 := z3 ⟨c.1, by rw [hc]; exact m1⟩
    obtain ⟨_, b1, _⟩ := z4 n hn (by omega) m1
    rw [hc] at a1
    dsimp only at Y2 f2 W2 a1 b1
    have B2 := lw_Br B1 Y2 f2 W2
    have rr := lw_rr f2
    have R1 : lw_R L M1 := ⟨B1, lw_tc R.1.1 R.1.2 fx (by decide) rfl rfl rfl⟩
    have R2 : lw_R L M2 := ⟨B2, lw_tr R1.2 f2 (by decide)⟩
    refine ⟨v1, v2, M1, M2, ⟨e1, B1, lw_s_cls fx⟩, e2, ⟨R2, ⟨?_, ?_⟩, fun k hk => ?_⟩, (lw_s_ref f2).trans (lw_s_cls fx)⟩
    · rw [rr 2 (by decide), hf, b1, rc 194 (by decide)]
      exact (R.2.2 n hn4).2 ((R.2.2 n hn4).1.1.mp c.2)
    · rw [rr 2 (by decide), hx, a1, rc 195 (by decide)]
      exact (R.2.2 n hn4).1.2
    · have Ka := lw_im Q K I k hk
      rw [f2.1.2, rr (151 + 6 * k) (by show ¬ (175 ≤ 151 + 6 * k ∧ 151 + 6 * k ≤ 196); omega), y_fa (i := 196) f2 (by decide) (by decide), y_fa (i := 195) f2 (by decide) (by decide), y_fa (i := 194) f2 (by decide) (by decide), rc 196 (by decide), rc 195 (by decide), rc 194 (by decide), f1.2.2.2 (151 + 6 * k) (by omega) 1 (by rw [Ka.2]; rfl), f1.2.2.1 (151 + 6 * k) (by omega) 3 (by rw [Ka.2]; rfl), f1.2.2.1 (151 + 6 * k) (by omega) 2 (by rw [Ka.2]; rfl)]
      exact R.2.2 k hk
  · have h1 := z1 c
    subst h1
    have cn : ¬ ((0 ≤ l.toInt ∧ l.toInt ≤ 3) ∧ M1.2.1 196 l.toNatClampNeg ≠ 0) := by
      rintro ⟨c1, c2⟩
      obtain ⟨n, hn⟩ : ∃ n : Nat, l.toInt = (n : Int) := ⟨l.toInt.toNat, by omega⟩
      have hc : l.toNatClampNeg = n := i_cl hn
      rw [hc] at c2
      refine c ⟨c1, ?_⟩
      rw [hc]
      exact (R.2.2 n (by omega)).1.1.mpr c2
    obtain ⟨⟨v2, M2⟩, e2, z3, _⟩ := E_back (l1 := l) Y W
    have h2 := z3 cn
    cases h2
    exact ⟨v1, _, _, _, ⟨e1, R.1.1, rfl⟩, e2, R, rfl⟩
def f_y4 : Bool := (IC_509 2 13 == -1 && IC_509 175 21 == -1) && (IC_509 2 14 == 0 && IC_509 175 22 == 0) && (List.range 4).all (fun k => RC_510 (151 + 6 * k) 1 == none && IC_509 (151 + 6 * k) 3 == 0)
set_option maxRecDepth 100000 in
theorem f_y4_ok : f_y4 = true := by decide +kernel
theorem lw6_first (L : Nat) (xs : Nat → Int32) : lw6 L (g_Mc L xs) := by
  have h := f_y4_ok
  unfold f_y4 at h
  simp only [Bool.and_eq_true, beq_iff_eq] at h
  obtain ⟨⟨⟨h1, h2⟩, h3, h4⟩, h5⟩ := h
  have i : ∀ {a b : Nat}, a ≠ 0 → (g_Mc L xs).2.1 a b = IC_509 a b := fun h => congrFun (II_510 L xs _ h) _
  have r : ∀ {a b : Nat}, (g_Mc L xs).2.2.2 a b = RC_510 a b := fun {a b} => congrFun (congrFun (RR_510 L xs) a) b
  refine ⟨lw_first L xs, ⟨by rw [i (by decide), i (by decide), h1, h2], by rw [i (by decide), i (by decide), h3, h4]⟩, fun k hk => ?_⟩
  have h6 := List.all_eq_true.mp h5 k (List.mem_range.mpr hk)
  simp only [Bool.and_eq_true, beq_iff_eq] at h6
  have z : (g_Mc L xs).2.1 196 k = 0 := f_z0 (by decide) (by decide) k
  rw [r, h6.1, z, f_z0 (i := 195) (by decide) (by decide), i (a := 151 + 6 * k) (by omega), h6.2]
  exact ⟨⟨⟨fun h => absurd rfl h, fun h => absurd rfl h⟩, rfl⟩, fun h => absurd rfl h⟩
