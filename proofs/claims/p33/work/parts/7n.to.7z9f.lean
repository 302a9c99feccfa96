-- 7n.law6
/-! the rule in force, x and the IMAGES' own, of both -/
def lw_gP (M : gM) : Prop := (M.2.1 2 13 = M.2.1 175 21 ∧ M.2.1 2 14 = M.2.1 175 22) ∧ ∀ k, k < 4 → ((M.2.2.2 (151 + 6 * k) 1 ≠ none ↔ M.2.1 196 k ≠ 0) ∧ M.2.1 (151 + 6 * k) 3 = M.2.1 195 k) ∧ (M.2.1 196 k ≠ 0 → M.2.1 (151 + 6 * k) 2 = M.2.1 194 k)
def lw6 (L : Nat) (M : gM) : Prop := lw_R L M ∧ lw_gP M
def g6_C (M M' : gM) : Prop := (M'.2.1 2 13 = M.2.1 2 13 ∧ M'.2.1 2 14 = M.2.1 2 14) ∧ ∀ k, k < 4 → (M'.2.2.2 (151 + 6 * k) 1 = M.2.2.2 (151 + 6 * k) 1 ∧ M'.2.1 (151 + 6 * k) 3 = M.2.1 (151 + 6 * k) 3) ∧ M'.2.1 (151 + 6 * k) 2 = M.2.1 (151 + 6 * k) 2
def g6_E (M M' : gM) : Prop := (M'.2.1 175 21 = M.2.1 175 21 ∧ M'.2.1 175 22 = M.2.1 175 22) ∧ (M'.2.1 196 = M.2.1 196 ∧ M'.2.1 195 = M.2.1 195) ∧ M'.2.1 194 = M.2.1 194
theorem g6_of {M M' : gM} (G : lw_gP M) (c : g6_C M M') (e : g6_E M M') : lw_gP M' := by
  obtain ⟨⟨a1, a2⟩, a3⟩ := G
  obtain ⟨⟨b1, b2⟩, b3⟩ := c
  obtain ⟨⟨c1, c2⟩, ⟨c3, c4⟩, c5⟩ := e
  refine ⟨⟨by rw [b1, c1, a1], by rw [b2, c2, a2]⟩, fun k hk => ?_⟩
  obtain ⟨⟨d1, d2⟩, d3⟩ := b3 k hk
  rw [d1, d2, d3, c3, c4, c5]
  exact a3 k hk
theorem lw_im {M : gM} (Q : q_HT 0 M) (K : q_Kd M 2 (11, 0)) (I : q_Im M) : ∀ k, k < 4 → q_Kd M (151 + 6 * k) (3, 0) := by
  intro k hk
  have K1 := lw_k121 Q K I
  have h9 := (Q.2 121 K1.1 (by decide) k).1
  rw [K1.2, show q_tR (26, 4) k = (1, 3, 0) from if_pos hk, I.2 k hk] at h9
  rcases h9 with (h9 | ⟨h9, j, e, Kj⟩) | (⟨h9, h2⟩ | ⟨h9, h2⟩)
  · exact absurd h9 (by simp)
  · cases e
    exact Kj
  · exact absurd h9 (by simp)
  · exact absurd h9 (by simp)
/-- a call of the class -/
theorem g6_cC {b : Nat → Bool} {L : Nat} {M M' : gM} (R : lw_B L M) (f : q_Fr b M M') (h13 : M'.2.1 2 13 = M.2.1 2 13) (h14 : M'.2.1 2 14 = M.2.1 2 14) : g6_C M M' := by
  obtain ⟨⟨⟨Q, Y⟩, W⟩, ⟨⟨K, I⟩, k0⟩, Z⟩ := R
  have hl := Q.1.1
  refine ⟨⟨h13, h14⟩, fun k hk => ?_⟩
  have Ka := lw_im Q K I k hk
  exact ⟨⟨f.2.2.2 (151 + 6 * k) (by omega) 1 (by rw [Ka.2]; rfl), f.2.2.1 (151 + 6 * k) (by omega) 3 (by rw [Ka.2]; rfl)⟩, f.2.2.1 (151 + 6 * k) (by omega) 2 (by rw [Ka.2]; rfl)⟩
theorem g6_b {b : Nat → Bool} {k L : Nat} {M M' : gM} (R : lw_B L M) (f : q_Fr b M M') (h : b k = true) : M'.2.1 2 k = M.2.1 2 k := by
  have K := R.2.1.1.1
  have hl := R.1.1.1.1.1
  refine f.2.2.1 2 (by omega) k ?_
  rw [K.2]
  unfold q_pI
  simp [h]
theorem g6_cE {b : Nat → Bool} {a : Nat} {M M' : gM} (f : q_Fx b a M M') : g6_E M M' := by
  have r := lw_rc f
  exact ⟨⟨by rw [r 175 (by decide)], by rw [r 175 (by decide)]⟩, ⟨r 196 (by decide), r 195 (by decide)⟩, r 194 (by decide)⟩
theorem g6_rC {S : Nat} {M M' : gM} (f : y_Fr S M M') : g6_C M M' := by
  have r := lw_rr f
  refine ⟨⟨by rw [r 2 (by decide)], by rw [r 2 (by decide)]⟩, fun k hk => ?_⟩
  have e := r (151 + 6 * k) (by show ¬ (175 ≤ 151 + 6 * k ∧ 151 + 6 * k ≤ 196); omega)
  exact ⟨⟨by rw [f.1.2], by rw [e]⟩, by rw [e]⟩
theorem g6_rE {S : Nat} {M M' : gM} (f : y_Fr S M M') (h : Nat.land S (2 ^ 21 + 2 ^ 22 + 2 ^ 59 + 2 ^ 60 + 2 ^ 61) = 0) : g6_E M M' :=
  ⟨⟨y_fk (i := 175) (k := 21) f (y_dis h (by decide)), y_fk (i := 175) (k := 22) f (y_dis h (by decide))⟩, ⟨funext (fun q => y_fa (i := 196) f (by decide) (y_dis h (by decide)) q), funext (fun q => y_fa (i := 195) f (by decide) (y_dis h (by decide)) q)⟩, funext (fun q => y_fa (i := 194) f (by decide) (y_dis h (by decide)) q)⟩
/-! calls, one behind the other -/
theorem lw6_cPI {b : Nat → Bool} {L : Nat} {lo hi : Int} {M : gM} {o : Option (Int32 × gM)} {β : Type} {f : Int32 × gM → Option β} {Q : β → Prop} (R : lw6 L M) (h1 : b 12 = true) (h2 : b 100 = true) (h3 : b 101 = true) (h13 : b 13 = true) (h14 : b 14 = true) (h : Ok o (q_PI b M lo hi)) (k : ∀ v M', lw6 L M' → M'.2.1 0 = M.2.1 0 → Ok (f (v, M')) Q) : Ok (o.bind f) Q := by
  refine Ok_b h (fun r z => ?_)
  obtain ⟨v, M'⟩ := r
  have fx := q_Fx_of (a := 151) z.2.2
  exact k v M' ⟨lw_cls R.1 z.2.1 z.2.2 h1 h2 h3, g6_of R.2 (g6_cC R.1.1 z.2.2 (g6_b R.1.1 z.2.2 h13) (g6_b R.1.1 z.2.2 h14)) (g6_cE fx)⟩ (lw_s_cls fx)
theorem lw6_cPX {L : Nat} {lo hi : Int} {M : gM} {o : Option (Int32 × gM)} {β : Type} {f : Int32 × gM → Option β} {Q : β → Prop} (R : lw6 L M) (h : Ok o (q_PX M lo hi 2 (M.2.1 2 14))) (k : ∀ v M', lw6 L M' → M'.2.1 0 = M.2.1 0 → Ok (f (v, M')) Q) : Ok (o.bind f) Q := by
  refine Ok_b h (fun r z => ?_)
  obtain ⟨v, M'⟩ := r
  have fx := q_Fx_of (a := 151) z.1.2.2
  exact k v M' ⟨lw_cls R.1 z.1.2.1 z.1.2.2 rfl rfl rfl, g6_of R.2 (g6_cC R.1.1 z.1.2.2 (g6_b R.1.1 z.1.2.2 rfl) z.2) (g6_cE fx)⟩ (lw_s_cls fx)
theorem lw6_rPI {S L : Nat} {lo hi : Int} {M : gM} {o : Option (Int32 × gM)} {β : Type} {f : Int32 × gM → Option β} {Q : β → Prop} (R : lw6 L M) (hW : Nat.land S y_wb = 0) (hS : Nat.land S (2 ^ 1 + 2 ^ 2 + 2 ^ 41) = 0) (h6 : Nat.land S (2 ^ 21 + 2 ^ 22 + 2 ^ 59 + 2 ^ 60 + 2 ^ 61) = 0) (h : Ok o (y_PI S M lo hi)) (k : ∀ v M', lw6 L M' → M'.2.1 0 = M.2.1 0 → Ok (f (v, M')) Q) : Ok (o.bind f) Q := by
  refine Ok_b h (fun r z => ?_)
  obtain ⟨v, M'⟩ := r
  exact k v M' ⟨lw_refW R.1 z.2.1 z.2.2 hW hS, g6_of R.2 (g6_rC z.2.2) (g6_rE z.2.2 h6)⟩ (lw_s_ref z.2.2)
/-! calls of both, side by side -/
def lw_21 (L : Nat) (M : gM) (o1 : Option (Int32 × gM)) (o2 : gM → Option (Int32 × gM)) : Prop := ∃ w1 w2 M1 M2, (o1 = some (w1, M1) ∧ lw_B L M1 ∧ M1.2.1 0 = M.2.1 0) ∧ o2 M1 = some (w2, M2) ∧ lw6 L M2 ∧ M2.2.1 0 = M.2.1 0
def lw_22 (L : Nat) (M : gM) (o1 : Option (Int32 × gM)) (o2 : gM → Option (Int32 × gM)) : Prop := ∃ w M1 M2, (o1 = some (w, M1) ∧ lw_B L M1 ∧ M1.2.1 0 = M.2.1 0) ∧ o2 M1 = some (w, M2) ∧ lw6 L M2 ∧ M2.2.1 0 = M.2.1 0
theorem lw6_both {b : Nat → Bool} {S L : Nat} {M M1 M2 : gM} (R : lw6 L M) (f1 : q_Fr b M M1) (h13 : b 13 = true) (h14 : b 14 = true) (f2 : y_Fr S M1 M2) (h6 : Nat.land S (2 ^ 21 + 2 ^ 22 + 2 ^ 59 + 2 ^ 60 + 2 ^ 61) = 0) (R2 : lw_R L M2) : lw6 L M2 := by
  have G1 : lw_gP M1 := g6_of R.2 (g6_cC R.1.1 f1 (g6_b R.1.1 f1 h13) (g6_b R.1.1 f1 h14)) (g6_cE (q_Fx_of (a := 151) f1))
  exact ⟨R2, g6_of G1 (g6_rC f2) (g6_rE f2 h6)⟩
theorem o_eq {α : Type} {o : Option α} {a b : α} (h1 : o = some a) (h2 : o = some b) : a = b := Option.some.inj (h1.symm.trans h2)
theorem lw6_feed {L : Nat} {v1 v2 v3 v4 v5 : Int32} {M : gM} (R : lw6 L M) : lw_22 L M (F_X11_feed (some 2) v1 v2 v3 v4 v5 M) (F_X12_feed (some 175) v1 v2 v3 v4 v5) := by
  obtain ⟨w, M1, M2, ⟨e1, B1, s1⟩, e2, R2, s2⟩ := lw_feed (v1 := v1) (v2 := v2) (v3 := v3) (v4 := v4) (v5 := v5) R.1
  obtain ⟨r1, er1, z1⟩ := S_X11_feed (l1 := v1) (l2 := v2) (l3 := v3) (l4 := v4) (l5 := v5) R.1.1.1.1.1 R.1.1.2.1.1.1
  have x1 := o_eq er1 e1
  subst x1
  obtain ⟨r2, er2, z2⟩ := S_X12_feed (l1 := v1) (l2 := v2) (l3 := v3) (l4 := v4) (l5 := v5) B1.1.1.2
  have x2 := o_eq er2 e2
  subst x2
  exact ⟨w, M1, M2, ⟨e1, B1, s1⟩, e2, lw6_both R z1.2.2 rfl rfl z2.2.2 (by decide) R2, s2⟩
theorem lw6_end {L : Nat} {l : Int32} {M : gM} (R : lw6 L M) : lw_22 L M (F_X11_end (some 2) l M) (F_X12_end (some 175) l) := by
  obtain ⟨w, M1, M2, ⟨e1, B1, s1⟩, e2, R2, s2⟩ := lw_end (l := l) R.1
  obtain ⟨r1, er1, z1⟩ := S_X11_end (l1 := l) R.1.1.1.1.1 R.1.1.2.1.1.1
  have x1 := o_eq er1 e1
  subst x1
  obtain ⟨r2, er2, z2⟩ := S_X12_end (l1 := l) B1.1.1.2
  have x2 := o_eq er2 e2
  subst x2
  exact ⟨w, M1, M2, ⟨e1, B1, s1⟩, e2, lw6_both R z1.2.2 rfl rfl z2.2.2 (by decide) R2, s2⟩
theorem lw6_rule {L : Nat} {M : gM} (R : lw6 L M) : lw_22 L M (F_X11_rule (some 2) M) (F_X12_rule (some 175)) := by
  obtain ⟨w, M1, M2, ⟨e1, B1, s1⟩, e2, R2, s2⟩ := lw_rule R.1
  obtain ⟨r1, er1, z1⟩ := S_X11_rule R.1.1.1.1.1 R.1.1.2.1.1.1
  have x1 := o_eq er1 e1
  subst x1
  obtain ⟨r2, er2, z2⟩ := S_X12_rule B1.1.1.2 B1.1.2
  have x2 := o_eq er2 e2
  subst x2
  exact ⟨w, M1, M2, ⟨e1, B1, s1⟩, e2, lw6_both R z1.2.2 rfl rfl z2.1.2 (by decide) R2, s2⟩
theorem lw6_house {L : Nat} {M : gM} (R : lw6 L M) : lw_21 L M (F_X11_house (some 2) M) (F_X12_house (some 175)) := by
  obtain ⟨w1, w2, M1, M2, ⟨e1, B1, s1⟩, e2, R2, s2⟩ := lw_house R.1
  obtain ⟨r1, er1, z1⟩ := S_X11_house R.1.1.1.1.1 R.1.1.2.1.1.1
  have x1 := o_eq er1 e1
  subst x1
  obtain ⟨r2, er2, z2⟩ := S_X12_house B1.1.1.2
  have x2 := o_eq er2 e2
  subst x2
  exact ⟨w1, w2, M1, M2, ⟨e1, B1, s1⟩, e2, lw6_both R z1.2.2 rfl rfl z2.2 (by decide) R2, s2⟩
theorem g6_tc {L : Nat} {M M2 : gM} (R : lw_R L M) (h : ∀ i k, (i = 132 ∨ (i = 131 ∧ k = 6)) ∨ (i = 2 ∧ k = 12) ∨ (i = 176 ∨ (i = 175 ∧ k = 1)) ∨ (i = 175 ∧ k = 2) → M2.2.1 i k = M.2.1 i k) (B2 : lw_B L M2) : lw_R L M2 := by
  have e132 : M2.2.1 132 = M.2.1 132 := funext (fun k => h 132 k (by omega))
  have e176 : M2.2.1 176 = M.2.1 176 := funext (fun k => h 176 k (by omega))
  refine ⟨B2, ⟨?_, ?_⟩, ?_, ?_⟩
  · rw [e132, e176]
    exact R.2.1.1
  · rw [h 131 6 (by omega), h 175 1 (by omega)]
    exact R.2.1.2
  · rw [h 2 12 (by omega), h 175 2 (by omega)]
    exact R.2.2.1
  · rw [e176]
    exact R.2.2.2
theorem lw6_force {L : Nat} {l : Int32} {M : gM} (R : lw6 L M) : lw_22 L M (F_X11_force (some 2) l M) (F_X12_force (some 175) l) := by
  have K := R.1.1.2.1.1.1
  have E1 := C_force (l := l) K.2
  have rc2 := R.1.2.2.1
  have hr : 0 ≤ (M.2.1 175 2).toInt := (R.1.1.1.1.2.2.1 175 (by decide) 2).1
  have m1 : (-1 : Int32).toInt = -1 := rfl
  have z0 : (0 : Int32).toInt = 0 := rfl
  by_cases c0 : l < -1
  · rw [if_pos c0] at E1
    have c0' := i_lt c0
    have E2 := E_force (l := l) R.1.1.1.1.2
    rw [if_neg (fun e => by rw [e] at c0'; omega), if_pos (Int32.lt_iff_toInt_lt.mpr (by omega))] at E2
    exact ⟨_, M, M, ⟨E1, R.1.1, rfl⟩, E2, R, rfl⟩
  have c0' := i_nlt c0
  rw [if_neg c0] at E1
  by_cases c1 : l < M.2.1 2 12
  · have c1' := i_lt c1
    rw [if_pos c1] at E1
    obtain ⟨r1, er1, z1⟩ := S_X11_force (l1 := l) R.1.1.1.1.1 K
    have x1 := o_eq er1 E1
    subst x1
    have f1 := q_Fx_of (a := 151) z1.2.2
    have B1 := lw_Bc R.1.1 z1.2.1 f1 (by decide)
    have rc := lw_rc f1
    dsimp only at f1 B1 rc
    obtain ⟨r2, er2, z2, W2⟩ := S_X12_force (l1 := l) B1.1.1.2 B1.1.2
    have E2 := E_force (l := l) B1.1.1.2
    have E3 : F_X12_force (some 175) l (mI M 2 13 l) = some (M.2.1 2 13, mI (mI M 2 13 l) 175 21 l) := by
      rw [E2, rc 175 (by decide), ← R.2.1.1, ← rc2]
      by_cases c2 : l = -1
      · rw [if_pos c2]
      · have : l.toInt ≠ -1 := fun e => c2 (Int32.toInt_inj.mp e)
        rw [if_neg c2, if_neg (fun z => by have := i_lt z; omega), if_neg (fun z => by have := i_le z; omega)]
    have x2 := o_eq er2 E3
    subst x2
    have f2 := z2.2.2
    have B2 := lw_Br B1 z2.2.1 f2 W2
    dsimp only at f2 B2
    have rr := lw_rr f2
    refine ⟨_, _, _, ⟨E1, B1, lw_s_cls f1⟩, E3, ⟨g6_tc R.1 (fun i k h => by rw [mI_ne (by omega), mI_ne (by omega)]) B2, ⟨?_, ?_⟩, fun k hk => ?_⟩, (lw_s_ref f2).trans (lw_s_cls f1)⟩
    · rw [y_mI1, mI_ne (Or.inl (by decide)), y_mI1]
    · rw [mI_ne (Or.inl (by decide)), mI_ne (Or.inr (by decide)), mI_ne (Or.inr (by decide)), mI_ne (Or.inl (by decide))]
      exact R.2.1.2
    · rw [mI_ne (j := 151 + 6 * k) (a := 3) (by omega), mI_ne (j := 151 + 6 * k) (a := 3) (by omega), mI_ne (j := 151 + 6 * k) (a := 2) (by omega), mI_ne (j := 151 + 6 * k) (a := 2) (by omega), mI_ne (j := 196) (by omega), mI_ne (j := 196) (by omega), mI_ne (j := 195) (by omega), mI_ne (j := 195) (by omega), mI_ne (j := 194) (by omega), mI_ne (j := 194) (by omega)]
      exact R.2.2 k hk
  · have c1' := i_nlt c1
    rw [if_neg c1] at E1
    have E2 := E_force (l := l) R.1.1.1.1.2
    rw [← rc2] at E2 hr
    rw [if_neg (fun e => by rw [e] at c1'; omega), if_neg (fun z => by have := i_lt z; omega), if_pos (Int32.le_iff_toInt_le.mpr (by omega))] at E2
    exact ⟨_, M, M, ⟨E1, R.1.1, rfl⟩, E2, R, rfl⟩
theorem lw6_seed {L : Nat} {l : Int32} {M : gM} (R : lw6 L M) : lw_22 L M (F_X11_seed (some 2) l M) (F_X12_seed (some 175) l) := by
  have K := R.1.1.2.1.1.1
  have E1 := S_X11_seed (l1 := l) K
  have z0 : (0 : Int32).toInt = 0 := rfl
  by_cases h : 0 ≤ l
  · have h' := i_le h
    rw [if_pos h] at E1
    obtain ⟨H1, f1⟩ := q_seedHT (l1 := l) R.1.1.1.1.1 K (by omega)
    have fx := q_Fx_of (a := 151) f1
    have B1 := lw_Bc R.1.1 H1 fx (by decide)
    have rc := lw_rc fx
    obtain ⟨⟨v, M2⟩, er, ⟨⟨H2, f2⟩, v2, x2⟩⟩ := S_X12_seed (l1 := l) B1.1.1.2
    rw [if_pos h] at v2 x2
    dsimp only at v2 x2 H2 f2
    have B2 := lw_Br B1 H2 f2 (y_Wf f2 (by decide) B1.1.2)
    have R1 : lw_R L (mI M 2 14 l) := lw_cls R.1 H1 f1 rfl rfl rfl
    have R2 : lw_R L M2 := lw_refW R1 H2 f2 (by decide) (by decide)
    have rr := lw_rr f2
    have ev : v = M.2.1 2 14 := by rw [v2, rc 175 (by decide), R.2.1.2]
    subst ev
    refine ⟨_, _, _, ⟨E1, B1, lw_s_cls fx⟩, er, ⟨R2, ⟨?_, ?_⟩, fun k hk => ?_⟩, (lw_s_ref f2).trans (lw_s_cls fx)⟩
    · rw [rr 2 (by decide), y_fk (i := 175) (k := 21) f2 (by decide), rc 175 (by decide), mI_ne (Or.inr (by decide))]
      exact R.2.1.1
    · rw [rr 2 (by decide), x2, y_mI1]
    · rw [f2.1.2, rr (151 + 6 * k) (by show ¬ (175 ≤ 151 + 6 * k ∧ 151 + 6 * k ≤ 196); omega), y_fa (i := 196) f2 (by decide) (by decide), y_fa (i := 195) f2 (by decide) (by decide), y_fa (i := 194) f2 (by decide) (by decide), rc 196 (by decide), rc 195 (by decide), rc 194 (by decide), mI_ne (j := 151 + 6 * k) (a := 3) (by omega), mI_ne (j := 151 + 6 * k) (a := 2) (by omega)]
      exact R.2.2 k hk
  · rw [if_neg h] at E1
    obtain ⟨⟨v, M2⟩, er, ⟨⟨H2, f2⟩, v2, x2⟩⟩ := S_X12_seed (l1 := l) R.1.1.1.1.2
    rw [if_neg h] at v2 x2
    dsimp only at v2 x2 H2 f2
    have R2 : lw_R L M2 := lw_refW R.1 H2 f2 (by decide) (by decide)
    have rr := lw_rr f2
    subst v2
    refine ⟨_, _, _, ⟨E1, R.1.1, rfl⟩, er, ⟨R2, ⟨?_, ?_⟩, fun k hk => ?_⟩, lw_s_ref f2⟩
    · rw [rr 2 (by decide), y_fk (i := 175) (k := 21) f2 (by decide)]
      exact R.2.1.1
    · rw [rr 2 (by decide), x2]
      exact R.2.1.2
    · rw [f2.1.2, rr (151 + 6 * k) (by show ¬ (175 ≤ 151 + 6 * k ∧ 151 + 6 * k ≤ 196); omega), y_fa (i := 196) f2 (by decide) (by decide), y_fa (i := 195) f2 (by decide) (by decide), y_fa (i := 194) f2 (by decide) (by decide)]
      exact R.2.2 k hk
theorem lw6_image {L : Nat} {l : Int32} {M : gM} (R : lw6 L M) : lw_21 L M (F_X11_image (some 2) l M) (F_X12_image (some 175) l) := by
  obtain ⟨⟨⟨Q, Y⟩, W⟩, ⟨⟨K, I⟩, k0⟩, Z⟩ := R.1.1
  have hl := Q.1.1
  obtain ⟨⟨v1, M1⟩, e1, z1, z2⟩ := S_X11_image (l1 := l) Q K I
  dsimp only at z1 z2
  by_cases c : 0 ≤ l.toInt ∧ l.toInt ≤ 3
  · obtain ⟨H1, f1, ⟨e, he⟩, hx, hf⟩ := z2 c
    obtain ⟨n, hn⟩ : ∃ n : Nat, l.toInt = (n : Int) := ⟨l.toInt.toNat, by omega⟩
    have hc : l.toNatClampNeg = n := i_cl hn
    rw [hc] at f1 he hx hf
    have hn4 : n < 4 := by omega
    have B1 := lw_Bc R.1.1 H1 f1 (by omega)
    have rc := lw_rc f1
    obtain ⟨⟨v2, M2⟩, e2, ⟨⟨Y2, f2⟩, W2, _, z3⟩, _, z4⟩ := Ok_and (S_X12_image (l1 := l) B1.1.1.2 B1.1.2) (E_image (l1 := l) B1.1.1.2)
    obtain ⟨⟨a1, a2⟩, a3⟩ := z3 c
    obtain ⟨_, b1, b2⟩ := z4 n hn (by omega)
    rw [hc] at a1 a2 a3
    dsimp only at Y2 f2 W2 a1 a2 a3 b1 b2
    have B2 := lw_Br B1 Y2 f2 W2
    have rr := lw_rr f2
    have R1 : lw_R L M1 := ⟨B1, lw_tc R.1.1 R.1.2 f1 (by omega) rfl rfl rfl⟩
    have R2 : lw_R L M2 := ⟨B2, lw_tr R1.2 f2 (by decide)⟩
    have o : ∀ k, q_ba k = true → M1.2.1 2 k = M.2.1 2 k := fun k hk => f1.2.2.1 2 (by omega) (by omega) k (by rw [K.2]; unfold q_pI; simp [hk])
    refine ⟨v1, v2, M1, M2, ⟨e1, B1, lw_s_cls f1⟩, e2, ⟨R2, ⟨?_, ?_⟩, fun k hk => ?_⟩, (lw_s_ref f2).trans (lw_s_cls f1)⟩
    · rw [rr 2 (by decide), o 13 rfl, y_fk (i := 175) (k := 21) f2 (by decide), rc 175 (by decide)]
      exact R.2.1.1
    · rw [rr 2 (by decide), o 14 rfl, y_fk (i := 175) (k := 22) f2 (by decide), rc 175 (by decide)]
      exact R.2.1.2
    · rw [f2.1.2, rr (151 + 6 * k) (by show ¬ (175 ≤ 151 + 6 * k ∧ 151 + 6 * k ≤ 196); omega)]
      by_cases ek : k = n
      · subst ek
        rw [he, a1, hx, hf, a2, b1, rc 175 (by decide)]
        exact ⟨⟨⟨fun _ => by decide, fun _ => by simp⟩, R.2.1.2⟩, fun _ => R.2.1.1⟩
      · obtain ⟨d1, d2⟩ := a3 k ek
        have Ka := lw_im Q K I k hk
        rw [d1, d2, b2 k ek, rc 196 (by decide), rc 195 (by decide), rc 194 (by decide), f1.2.2.2 (151 + 6 * k) (by omega) (by omega) 1 (by rw [Ka.2]; rfl), f1.2.2.1 (151 + 6 * k) (by omega) (by omega) 3 (by rw [Ka.2]; rfl), f1.2.2.1 (151 + 6 * k) (by omega) (by omega) 2 (by rw [Ka.2]; rfl)]
        exact R.2.2 k hk
  · have h1 := z1 c
    subst h1
    obtain ⟨⟨v2, M2⟩, e2, z3, _⟩ := E_image (l1 := l) Y
    have h2 := z3 c
    cases h2
    exact ⟨v1, _, _, _, ⟨e1, R.1.1, rfl⟩, e2, R, rfl⟩
theorem lw6_back {L : Nat} {l : Int32} {M : gM} (R : lw6 L M) : lw_21 L M (F_X11_back (some 2) l M) (F_X12_back (some 175) l) := by
  obtain ⟨⟨⟨Q, Y⟩, W⟩, ⟨⟨K, I⟩, k0⟩, Z⟩ := R.1.1
  have hl := Q.1.1
  obtain ⟨⟨v1, M1⟩, e1, z1, z2⟩ := S_X11_back (l1 := l) Q K I
  dsimp only at z1 z2
  by_cases c : (0 ≤ l.toInt ∧ l.toInt ≤ 3) ∧ M.2.2.2 (151 + 6 * l.toNatClampNeg) 1 ≠ none
  · obtain ⟨H1, f1, hx, hf⟩ := z2 c
    obtain ⟨n, hn⟩ : ∃ n : Nat, l.toInt = (n : Int) := ⟨l.toInt.toNat, by omega⟩
    have hc : l.toNatClampNeg = n := i_cl hn
    rw [hc] at hx hf c
    have hn4 : n < 4 := by omega
    have fx := q_Fx_of (a := 151) f1
    have B1 := lw_Bc R.1.1 H1 fx (by decide)
    have rc := lw_rc fx
    have m1 : M1.2.1 196 n ≠ 0 := by
      rw [rc 196 (by decide)]
      exact (R.2.2 n hn4).1.1.mp c.2
    obtain ⟨⟨v2, M2⟩, e2, ⟨⟨Y2, f2⟩, W2, _, z3⟩, _, z4⟩ := Ok_and (S_X12_back (l1 := l) B1.1.1.2 B1.1.2) (E_back (l1 := l) B1.1.1.2 B1.1.2)
    have a1 := z3 ⟨c.1, by rw [hc]; exact m1⟩
    obtain ⟨_, b1, _⟩ := z4 n hn (by omega) m1
    rw [hc] at a1
    dsimp only at Y2 f2 W2 a1 b1
    have B2 := lw_Br B1 Y2 f2 W2
    have rr := lw_rr f2
    have R1 : lw_R L M1 := ⟨B1, lw_tc R.1.1 R.1.2 fx (by decide) rfl rfl rfl⟩
    have R2 : lw_R L M2 := ⟨B2, lw_tr R1.2 f2 (by decide)⟩
    refine ⟨v1, v2, M1, M2, ⟨e1, B1, lw_s_cls fx⟩, e2, ⟨R2, ⟨?_, ?_⟩, fun k hk => ?_⟩, (lw_s_ref f2).trans (lw_s_cls fx)⟩
    · rw [rr 2 (by decide), hf, b1, rc 194 (by decide)]
      exact (R.2.2 n hn4).2 ((R.2.2 n hn4).1.1.mp c.2)
    · rw [rr 2 (by decide), hx, a1, rc 195 (by decide)]
      exact (R.2.2 n hn4).1.2
    · have Ka := lw_im Q K I k hk
      rw [f2.1.2, rr (151 + 6 * k) (by show ¬ (175 ≤ 151 + 6 * k ∧ 151 + 6 * k ≤ 196); omega), y_fa (i := 196) f2 (by decide) (by decide), y_fa (i := 195) f2 (by decide) (by decide), y_fa (i := 194) f2 (by decide) (by decide), rc 196 (by decide), rc 195 (by decide), rc 194 (by decide), f1.2.2.2 (151 + 6 * k) (by omega) 1 (by rw [Ka.2]; rfl), f1.2.2.1 (151 + 6 * k) (by omega) 3 (by rw [Ka.2]; rfl), f1.2.2.1 (151 + 6 * k) (by omega) 2 (by rw [Ka.2]; rfl)]
      exact R.2.2 k hk
  · have h1 := z1 c
    subst h1
    have cn : ¬ ((0 ≤ l.toInt ∧ l.toInt ≤ 3) ∧ M1.2.1 196 l.toNatClampNeg ≠ 0) := by
      rintro ⟨c1, c2⟩
      obtain ⟨n, hn⟩ : ∃ n : Nat, l.toInt = (n : Int) := ⟨l.toInt.toNat, by omega⟩
      have hc : l.toNatClampNeg = n := i_cl hn
      rw [hc] at c2
      refine c ⟨c1, ?_⟩
      rw [hc]
      exact (R.2.2 n (by omega)).1.1.mpr c2
    obtain ⟨⟨v2, M2⟩, e2, z3, _⟩ := E_back (l1 := l) Y W
    have h2 := z3 cn
    cases h2
    exact ⟨v1, _, _, _, ⟨e1, R.1.1, rfl⟩, e2, R, rfl⟩
def f_y4 : Bool := (IC_509 2 13 == -1 && IC_509 175 21 == -1) && (IC_509 2 14 == 0 && IC_509 175 22 == 0) && (List.range 4).all (fun k => RC_510 (151 + 6 * k) 1 == none && IC_509 (151 + 6 * k) 3 == 0)
set_option maxRecDepth 100000 in
theorem f_y4_ok : f_y4 = true := by decide +kernel
theorem lw6_first (L : Nat) (xs : Nat → Int32) : lw6 L (g_Mc L xs) := by
  have h := f_y4_ok
  unfold f_y4 at h
  simp only [Bool.and_eq_true, beq_iff_eq] at h
  obtain ⟨⟨⟨h1, h2⟩, h3, h4⟩, h5⟩ := h
  have i : ∀ {a b : Nat}, a ≠ 0 → (g_Mc L xs).2.1 a b = IC_509 a b := fun h => congrFun (II_510 L xs _ h) _
  have r : ∀ {a b : Nat}, (g_Mc L xs).2.2.2 a b = RC_510 a b := fun {a b} => congrFun (congrFun (RR_510 L xs) a) b
  refine ⟨lw_first L xs, ⟨by rw [i (by decide), i (by decide), h1, h2], by rw [i (by decide), i (by decide), h3, h4]⟩, fun k hk => ?_⟩
  have h6 := List.all_eq_true.mp h5 k (List.mem_range.mpr hk)
  simp only [Bool.and_eq_true, beq_iff_eq] at h6
  have z : (g_Mc L xs).2.1 196 k = 0 := f_z0 (by decide) (by decide) k
  rw [r, h6.1, z, f_z0 (i := 195) (by decide) (by decide), i (a := 151 + 6 * k) (by omega), h6.2]
  exact ⟨⟨⟨fun h => absurd rfl h, fun h => absurd rfl h⟩, rfl⟩, fun h => absurd rfl h⟩
-- 7o.8a.hspec
/-! a HOUSE, as the document reads it: a place and the cells of what is told; or a FAULT -/
abbrev hS : Type := Nat × (Nat → Int32)
abbrev hs_R : Type := Nat ⊕ hS
abbrev hs_N : Type := Nat ⊕ (Nat × Int32)
def hs_num (T : gM) (p : Nat) (lo hi : Int) : hs_N := if n_D T p = true then (if n_ok T p lo hi = true then .inr (k_go T p, n_v T p) else .inl (1 + 8 * p + 1)) else .inl (1 + 8 * p + 0)
def hs_b {α : Type} (r : hs_N) (f : Nat → Int32 → Nat ⊕ α) : Nat ⊕ α := match r with
  | .inl e => .inl e
  | .inr x => f x.1 x.2
theorem hs_bl {α : Type} {e : Nat} {f : Nat → Int32 → Nat ⊕ α} : hs_b (.inl e) f = .inl e := rfl
theorem hs_br {α : Type} {x : Nat × Int32} {f : Nat → Int32 → Nat ⊕ α} : hs_b (.inr x) f = f x.1 x.2 := rfl
def hs_set (σ : Nat → Int32) (k : Nat) (v : Int32) : Nat → Int32 := fun j => if j = k then v else σ j
def hs_n (σ : Nat → Int32) : Nat := (σ 1).toNatClampNeg
def hs_m (σ : Nat → Int32) : Nat := (σ 2).toNatClampNeg
def hs_bit (v : Int32) : Int32 := (1 : Int32) <<< (v &&& 31)
def hs_is (a b : Int32) : Int32 := (a >>> (b &&& 31)) &&& 1
def hs_new (σ : Nat → Int32) (h : Nat) : Nat → Int32 := fun j => if 59 + 14 * h ≤ j ∧ j < 73 + 14 * h then (if (j - (59 + 14 * h)) % 2 = 0 then -1 else 0) else σ j
def hs_house (T : gM) (x : hS) : hs_R := hs_b (hs_num T x.1 1 20) fun q v => .inr (q, hs_set (hs_set x.2 5 v) 0 1)
def hs_thing (T : gM) (x : hS) : hs_R := hs_b (hs_num T x.1 0 9) fun q a => hs_b (hs_num T q 0 20) fun q b => hs_b (hs_num T q 0 99) fun q c => .inr (q, hs_set (hs_set (hs_set (hs_set (hs_set x.2 (10 + 4 * hs_n x.2) a) (11 + 4 * hs_n x.2) b) (12 + 4 * hs_n x.2) c) (13 + 4 * hs_n x.2) (-1)) 1 (x.2 1 + 1))
def hs_heir (T : gM) (x : hS) : hs_R := hs_b (hs_num T x.1 0 99) fun q a => hs_b (hs_num T q 0 100) fun q b => .inr (q, hs_set (hs_new (hs_set (hs_set (hs_set x.2 (38 + 2 * hs_m x.2) a) (39 + 2 * hs_m x.2) b) (52 + hs_m x.2) 0) (hs_m x.2)) 2 (x.2 2 + 1))
def hs_song (T : gM) (x : hS) : hs_R := hs_b (hs_num T x.1 0 ((x.2 1).toInt - 1)) fun q v => .inr (q, hs_set x.2 7 (x.2 7 ||| hs_bit v))
def hs_hate (T : gM) (x : hS) : hs_R := hs_b (hs_num T x.1 0 ((x.2 2).toInt - 1)) fun q v => .inr (q, hs_set x.2 6 (x.2 6 ||| hs_bit v))
def hs_cous (T : gM) (x : hS) : hs_R := hs_b (hs_num T x.1 0 ((x.2 2).toInt - 1)) fun q a => hs_b (hs_num T q 0 ((x.2 2).toInt - 1)) fun q2 b =>
  if a = b ∨ hs_is (x.2 (52 + a.toNatClampNeg)) b = 1 then .inl (1 + 8 * q + 1) else .inr (q2, hs_set (hs_set (hs_set x.2 (52 + a.toNatClampNeg) (x.2 (52 + a.toNatClampNeg) ||| hs_bit b)) (52 + b.toNatClampNeg) (x.2 (52 + b.toNatClampNeg) ||| hs_bit a)) 3 (x.2 3 + 1))
def hs_know (T : gM) (x : hS) : hs_R := hs_b (hs_num T x.1 0 ((x.2 2).toInt - 1)) fun q h => hs_b (hs_num T q 0 ((x.2 1).toInt - 1)) fun q t => hs_b (hs_num T q 0 9) fun q a => hs_b (hs_num T q 1 99) fun q s =>
  .inr (q, hs_set (hs_set x.2 (59 + 14 * h.toNatClampNeg + 2 * t.toNatClampNeg) a) (60 + 14 * h.toNatClampNeg + 2 * t.toNatClampNeg) s)
def hs_w (k : Int) : Bool := decide ((k = 275 ∨ k = 262 ∨ k = 268) ∨ (k = 261 ∨ k = 267) ∨ k = 276 ∨ k = 277)
def hs_full (σ : Nat → Int32) (k : Int) : Bool := decide ((k = 262 ∧ 7 ≤ (σ 1).toInt) ∨ (k = 261 ∧ 7 ≤ (σ 2).toInt) ∨ (k = 276 ∧ 10 ≤ (σ 3).toInt))
def hs_bad (σ : Nat → Int32) (k : Int) (cl : Nat) : Bool := decide (40 < cl ∨ ¬ (k = 275 ↔ cl = 1)) || hs_full σ k
def hs_body (T : gM) (k : Int) (x : hS) : hs_R := if k = 261 then hs_heir T x else if k = 262 then hs_thing T x else if k = 267 then hs_hate T x else if k = 268 then hs_song T x else if k = 275 then hs_house T x else if k = 276 then hs_cous T x else hs_know T x
def hs_cl (T : gM) (cl : Nat) (x : hS) : hs_R :=
  if hs_w (k_kind T x.1) = false then .inl (1 + 8 * x.1 + 0) else if hs_bad x.2 (k_kind T x.1) cl = true then .inl (1 + 8 * x.1 + 4) else hs_body T (k_kind T x.1) (k_go T x.1, x.2)
def hs_tl (T : gM) : Nat → Nat → hS → hs_R
  | 0, _, _ => .inl 0
  | n + 1, cl, x => match hs_cl T cl x with
    | .inl e => .inl e
    | .inr y => if k_kind T y.1 = 256 then .inr y else if k_kind T y.1 = 59 then hs_tl T n (cl + 1) (k_go T y.1, y.2) else .inl (1 + 8 * y.1 + 0)
def hs_text (T : gM) (σ : Nat → Int32) : hs_R := hs_tl T 42 1 (n_sk T 0, σ)
/-! what the class holds of it: a House at e, a State at s -/
def k_LE (M : gM) (e : Nat) : Prop := g_k M e = (1, 0) ∧ ∀ i, i < 5 → g_k M (e + 1 + i) = (20, 7) ∧ M.2.2.2 e i = some (e + 1 + i)
def k_LS (M : gM) (s : Nat) : Prop := (g_k M s = (8, 0) ∧ (g_k M (s + 1) = (20, 49) ∧ g_k M (s + 2) = (20, 49)) ∧ g_k M (s + 3) = (20, 7) ∧ g_k M (s + 4) = (20, 7)) ∧ (M.2.2.2 s 0 = some (s + 1) ∧ M.2.2.2 s 1 = some (s + 2)) ∧ M.2.2.2 s 2 = some (s + 3) ∧ M.2.2.2 s 3 = some (s + 4)
def k_E (M : gM) (e : Nat) (σ : Nat → Int32) : Prop := ((M.2.1 e 6 = σ 1 ∧ M.2.1 e 7 = σ 2) ∧ M.2.1 e 8 = σ 3) ∧ (M.2.1 e 9 = σ 7 ∧ M.2.1 e 10 = σ 6) ∧
  (∀ t : Nat, (t : Int) < (σ 1).toInt → (M.2.1 (e + 1) t = σ (10 + 4 * t) ∧ M.2.1 (e + 2) t = σ (11 + 4 * t)) ∧ M.2.1 (e + 3) t = σ (12 + 4 * t)) ∧ ∀ h : Nat, (h : Int) < (σ 2).toInt → M.2.1 (e + 4) h = σ (39 + 2 * h) ∧ M.2.1 (e + 5) h = σ (52 + h)
def k_c (M : gM) (s : Nat) (σ : Nat → Int32) (h t : Nat) : Prop := ((0 < (M.2.1 (s + 2) (7 * h + t)).toInt ∧ 0 ≤ (σ (59 + 14 * h + 2 * t)).toInt) ∧ M.2.1 (s + 1) (7 * h + t) = σ (59 + 14 * h + 2 * t) ∧ M.2.1 (s + 2) (7 * h + t) = σ (60 + 14 * h + 2 * t)) ∨ (M.2.1 (s + 2) (7 * h + t) = 0 ∧ σ (59 + 14 * h + 2 * t) = -1 ∧ σ (60 + 14 * h + 2 * t) = 0)
def k_S (M : gM) (s : Nat) (σ : Nat → Int32) : Prop := ((M.2.1 s 4 = σ 8 ∧ M.2.1 s 5 = σ 4) ∧ M.2.1 s 6 = σ 5) ∧ (∀ h : Nat, (h : Int) < (σ 2).toInt → M.2.1 (s + 3) h = σ (38 + 2 * h) ∧ ∀ t, t < 7 → k_c M s σ h t) ∧ ∀ t : Nat, (t : Int) < (σ 1).toInt → M.2.1 (s + 4) t = σ (13 + 4 * t)
theorem k_LEm {M M' : gM} {e : Nat} (h : k_LE M e) (h1 : ∀ i, g_k M' i = g_k M i) (h2 : M'.2.2.2 = M.2.2.2) : k_LE M' e := ⟨(h1 e).trans h.1, fun i hi => ⟨(h1 _).trans (h.2 i hi).1, by rw [h2]; exact (h.2 i hi).2⟩⟩
theorem k_LSm {M M' : gM} {s : Nat} (h : k_LS M s) (h1 : ∀ i, g_k M' i = g_k M i) (h2 : M'.2.2.2 = M.2.2.2) : k_LS M' s := by
  unfold k_LS at h ⊢
  simp only [h1, h2]
  exact h
theorem k_Em {M M' : gM} {e : Nat} {σ : Nat → Int32} (h : k_E M e σ) (o : ∀ i k, e ≤ i → i ≤ e + 5 → ¬ (i = e ∧ k = 5) → M'.2.1 i k = M.2.1 i k) : k_E M' e σ := by
  have o0 : ∀ k, k ≠ 5 → M'.2.1 e k = M.2.1 e k := fun k hk => o e k (by omega) (by omega) (fun z => hk z.2)
  have o1 : ∀ k, M'.2.1 (e + 1) k = M.2.1 (e + 1) k := fun k => o _ k (by omega) (by omega) (by omega)
  have o2 : ∀ k, M'.2.1 (e + 2) k = M.2.1 (e + 2) k := fun k => o _ k (by omega) (by omega) (by omega)
  have o3 : ∀ k, M'.2.1 (e + 3) k = M.2.1 (e + 3) k := fun k => o _ k (by omega) (by omega) (by omega)
  have o4 : ∀ k, M'.2.1 (e + 4) k = M.2.1 (e + 4) k := fun k => o _ k (by omega) (by omega) (by omega)
  have o5 : ∀ k, M'.2.1 (e + 5) k = M.2.1 (e + 5) k := fun k => o _ k (by omega) (by omega) (by omega)
  unfold k_E at h ⊢
  rw [o0 6 (by decide), o0 7 (by decide), o0 8 (by decide), o0 9 (by decide), o0 10 (by decide)]
  simp only [o1, o2, o3, o4, o5]
  exact h
theorem k_Sm {M M' : gM} {s : Nat} {σ : Nat → Int32} (h : k_S M s σ) (o : ∀ i k, s ≤ i → i ≤ s + 4 → M'.2.1 i k = M.2.1 i k) : k_S M' s σ := by
  have o0 : ∀ k, M'.2.1 s k = M.2.1 s k := fun k => o s k (by omega) (by omega)
  have o1 : ∀ k, M'.2.1 (s + 1) k = M.2.1 (s + 1) k := fun k => o _ k (by omega) (by omega)
  have o2 : ∀ k, M'.2.1 (s + 2) k = M.2.1 (s + 2) k := fun k => o _ k (by omega) (by omega)
  have o3 : ∀ k, M'.2.1 (s + 3) k = M.2.1 (s + 3) k := fun k => o _ k (by omega) (by omega)
  have o4 : ∀ k, M'.2.1 (s + 4) k = M.2.1 (s + 4) k := fun k => o _ k (by omega) (by omega)
  unfold k_S k_c at h ⊢
  simp only [o0, o1, o2, o3, o4]
  exact h
theorem mI_if {M : gM} {i k j a : Nat} {v : Int32} : (mI M i k v).2.1 j a = if j = i ∧ a = k then v else M.2.1 j a := by
  by_cases c : j = i ∧ a = k
  · rw [if_pos c, c.1, c.2]
    exact y_mI1
  · rw [if_neg c]
    exact mI_ne (by omega)
/-! steps, one by one -/
theorem x_gI {c i k : Nat} {v : Int32} {M : gM} {β : Type} {f : Int32 → Option β} {Q : β → Prop} (h : g_k M i = (c, 0)) (e : M.2.1 i k = v) (g : Ok (f v) Q) : Ok ((gI c M (some i) k).bind f) Q := by
  rw [t_gI h, Option.bind_some, e]
  exact g
theorem x_gR {c i k : Nat} {w : Option Nat} {M : gM} {β : Type} {f : Option Nat → Option β} {Q : β → Prop} (h : g_k M i = (c, 0)) (e : M.2.2.2 i k = w) (g : Ok (f w) Q) : Ok ((gR c M (some i) k).bind f) Q := by
  rw [t_gR h e, Option.bind_some]
  exact g
theorem x_gO {c i : Nat} {M : gM} {β : Type} {f : Nat → Option β} {Q : β → Prop} (h : g_k M i = (c, 0)) (g : Ok (f i) Q) : Ok ((gO c M (some i)).bind f) Q := by
  rw [t_gO h, Option.bind_some]
  exact g
theorem x_gC {c i : Nat} {M : gM} {β : Type} {f : Unit → Option β} {Q : β → Prop} (h : g_k M i = (c, 0)) (g : Ok (f ()) Q) : Ok ((gC c M i).bind f) Q := by
  rw [t_gC h, Option.bind_some]
  exact g
theorem x_aI {t i n k : Nat} {j v : Int32} {M : gM} {β : Type} {f : Int32 → Option β} {Q : β → Prop} (h : g_k M i = (t, n)) (hj : j.toInt = (k : Int)) (hk : k < n) (e : M.2.1 i k = v) (g : Ok (f v) Q) : Ok ((aI t M (some i) j).bind f) Q := by
  rw [t_aI h (by omega) (by omega), Option.bind_some, i_cl hj, e]
  exact g
theorem x_pI {c i k : Nat} {v : Int32} {M : gM} {β : Type} {f : gM → Option β} {Q : β → Prop} (h : g_k M i = (c, 0)) (g : Ok (f (mI M i k v)) Q) : Ok ((pI c M (some i) k v).bind f) Q := by
  rw [t_pI h, Option.bind_some]
  exact g
theorem x_sI {i n k : Nat} {j v : Int32} {M : gM} {β : Type} {f : gM → Option β} {Q : β → Prop} (h : g_k M i = (20, n)) (hj : j.toInt = (k : Int)) (hk : k < n) (g : Ok (f (mI M i k v)) Q) : Ok ((sI M (some i) j v).bind f) Q := by
  rw [t_sI h (by omega) (by omega), Option.bind_some, i_cl hj]
  exact g
theorem x_eq {α β : Type} {o : Option α} {a : α} {f : α → Option β} {Q : β → Prop} (h : o = some a) (g : Ok (f a) Q) : Ok (o.bind f) Q := by
  rw [h, Option.bind_some]
  exact g
-- 7p.8f.hst
/-! a State cleared, a State copied, a House made: exactly -/
def k_Fs (s : Nat) (M M' : gM) : Prop := ((M'.1 = M.1 ∧ M'.2.2.1 = M.2.2.1) ∧ M'.2.2.2 = M.2.2.2) ∧ ∀ i, i < s ∨ s + 4 < i → M'.2.1 i = M.2.1 i
theorem k_Fs_up {s : Nat} {M : gM} {i k : Nat} {v : Int32} (h : s ≤ i ∧ i ≤ s + 4) : k_Fs s M (mI M i k v) := ⟨⟨⟨rfl, rfl⟩, rfl⟩, fun j hj => g_up_ne _ _ _ (by omega)⟩
theorem k_Fs_tr {s : Nat} {M M1 M2 : gM} (h1 : k_Fs s M M1) (h2 : k_Fs s M1 M2) : k_Fs s M M2 := ⟨⟨⟨h2.1.1.1.trans h1.1.1.1, h2.1.1.2.trans h1.1.1.2⟩, h2.1.2.trans h1.1.2⟩, fun i h => (h2.2 i h).trans (h1.2 i h)⟩
theorem k_Fs_rf {s : Nat} {M : gM} : k_Fs s M M := ⟨⟨⟨rfl, rfl⟩, rfl⟩, fun _ _ => rfl⟩
theorem k_Fs_LS {s : Nat} {M M' : gM} {s2 : Nat} (h : k_LS M s2) (f : k_Fs s M M') : k_LS M' s2 := k_LSm h (fun i => q_k_of f.1.1.1) f.1.2
theorem C_clear_L30 {s : Nat} : ∀ (n j : Nat) {l : Int32} {M : gM}, k_LS M s → l.toInt = (j : Int) → j ≤ 7 → 7 - j < n → Ok (F_X8_clear_L30 n (some s) l M) (fun M' => k_Fs s M M' ∧ ((M'.2.1 s 4 = 0 ∧ M'.2.1 s 5 = 0) ∧ M'.2.1 s 6 = 0) ∧ (∀ k, M'.2.1 (s + 1) k = M.2.1 (s + 1) k ∧ M'.2.1 (s + 2) k = M.2.1 (s + 2) k) ∧ ∀ k, k < 7 → (j ≤ k → M'.2.1 (s + 3) k = 0 ∧ M'.2.1 (s + 4) k = -1) ∧ (k < j → M'.2.1 (s + 3) k = M.2.1 (s + 3) k ∧ M'.2.1 (s + 4) k = M.2.1 (s + 4) k)) := by
  intro n
  induction n with
  | zero => intro j l M L hl hj hn; omega
  | succ n ih =>
    intro j l M L hl hj hn
    have L0 := L
    obtain ⟨⟨k, ⟨k1, k2⟩, k3, k4⟩, ⟨r0, r1⟩, r2, r3⟩ := L
    have z7 : (7 : Int32).toInt = 7 := rfl
    show Ok (F_X8_clear_b30 (F_X8_clear_L30 n) (some s) l M) _
    delta F_X8_clear_b30
    refine Ok_i (fun c => ?_) (fun c => ?_)
    · have c := i_le c
      refine x_pI k (x_pI k (x_pI k ?_))
      refine Ok_s ⟨k_Fs_tr (k_Fs_up (by omega)) (k_Fs_tr (k_Fs_up (by omega)) (k_Fs_up (by omega))), ⟨⟨?_, ?_⟩, ?_⟩, fun b => ⟨?_, ?_⟩, fun b hb => ⟨fun h => by omega, fun h => ⟨?_, ?_⟩⟩⟩
      · rw [mI_ne (Or.inr (by decide)), mI_ne (Or.inr (by decide)), y_mI1]
      · rw [mI_ne (Or.inr (by decide)), y_mI1]
      · rw [y_mI1]
      · rw [mI_ne (Or.inl (by omega)), mI_ne (Or.inl (by omega)), mI_ne (Or.inl (by omega))]
      · rw [mI_ne (Or.inl (by omega)), mI_ne (Or.inl (by omega)), mI_ne (Or.inl (by omega))]
      · rw [mI_ne (Or.inl (by omega)), mI_ne (Or.inl (by omega)), mI_ne (Or.inl (by omega))]
      · rw [mI_ne (Or.inl (by omega)), mI_ne (Or.inl (by omega)), mI_ne (Or.inl (by omega))]
    · have c := i_nle c
      have inc : (l + 1).toInt = ((j + 1 : Nat) : Int) := by rw [i_addc (n := 1) rfl (by omega) (by omega)]; omega
      refine x_gR k r2 (x_sI k3 hl (by omega) ?_)
      refine x_gR k r3 (x_sI k4 hl (by omega) ?_)
      have f : k_Fs s M (mI (mI M (s + 3) j 0) (s + 4) j (-1)) := k_Fs_tr (k_Fs_up (by omega)) (k_Fs_up (by omega))
      refine Ok_w (ih (j + 1) (k_Fs_LS L0 f) inc (by omega) (by omega)) (fun M' z => ?_)
      obtain ⟨z1, z2, z3, z4⟩ := z
      refine ⟨k_Fs_tr f z1, z2, fun b => ?_, fun b hb => ⟨fun h => ?_, fun h => ?_⟩⟩
      · have := z3 b
        rw [mI_ne (Or.inl (by omega)), mI_ne (Or.inl (by omega)), mI_ne (Or.inl (by omega)), mI_ne (Or.inl (by omega))] at this
        exact this
      · by_cases e : b = j
        · subst e
          have := (z4 b hb).2 (by omega)
          rw [mI_ne (Or.inl (by omega)), y_mI1, y_mI1] at this
          exact this
        · exact (z4 b hb).1 (by omega)
      · have := (z4 b hb).2 (by omega)
        rw [mI_ne (Or.inl (by omega)), mI_ne (Or.inr (by omega)), mI_ne (Or.inr (by omega)), mI_ne (Or.inl (by omega))] at this
        exact this
theorem C_clear_L2 {s : Nat} : ∀ (n j : Nat) {l : Int32} {M : gM}, k_LS M s → l.toInt = (j : Int) → j ≤ 49 → 49 - j < n → Ok (F_X8_clear_L2 n (some s) l M) (fun M' => k_Fs s M M' ∧ (((M'.2.1 s 4 = 0 ∧ M'.2.1 s 5 = 0) ∧ M'.2.1 s 6 = 0) ∧ ∀ k, k < 7 → M'.2.1 (s + 3) k = 0 ∧ M'.2.1 (s + 4) k = -1) ∧ ∀ k, k < 49 → (j ≤ k → M'.2.1 (s + 1) k = 0 ∧ M'.2.1 (s + 2) k = 0) ∧ (k < j → M'.2.1 (s + 1) k = M.2.1 (s + 1) k ∧ M'.2.1 (s + 2) k = M.2.1 (s + 2) k)) := by
  intro n
  induction n with
  | zero => intro j l M L hl hj hn; omega
  | succ n ih =>
    intro j l M L hl hj hn
    have L0 := L
    obtain ⟨⟨k, ⟨k1, k2⟩, k3, k4⟩, ⟨r0, r1⟩, r2, r3⟩ := L
    have z49 : (49 : Int32).toInt = 49 := rfl
    show Ok (F_X8_clear_b2 (F_X8_clear_L2 n) (some s) l M) _
    delta F_X8_clear_b2
    refine Ok_i (fun c => ?_) (fun c => ?_)
    · have c := i_le c
      refine Ok_w (C_clear_L30 g_fuel 0 (l := 0) L0 rfl (by decide) (by decide)) (fun M' z => ?_)
      obtain ⟨z1, z2, z3, z4⟩ := z
      exact ⟨z1, ⟨z2, fun b hb => (z4 b hb).1 (by omega)⟩, fun b hb => ⟨fun h => by omega, fun h => z3 b⟩⟩
    · have c := i_nle c
      have inc : (l + 1).toInt = ((j + 1 : Nat) : Int) := by rw [i_addc (n := 1) rfl (by omega) (by omega)]; omega
      refine x_gR k r0 (x_sI k1 hl (by omega) ?_)
      refine x_gR k r1 (x_sI k2 hl (by omega) ?_)
      have f : k_Fs s M (mI (mI M (s + 1) j 0) (s + 2) j 0) := k_Fs_tr (k_Fs_up (by omega)) (k_Fs_up (by omega))
      refine Ok_w (ih (j + 1) (k_Fs_LS L0 f) inc (by omega) (by omega)) (fun M' z => ?_)
      obtain ⟨z1, z2, z3⟩ := z
      refine ⟨k_Fs_tr f z1, z2, fun b hb => ⟨fun h => ?_, fun h => ?_⟩⟩
      · by_cases e : b = j
        · subst e
          have := (z3 b hb).2 (by omega)
          rw [mI_ne (Or.inl (by omega)), y_mI1, y_mI1] at this
          exact this
        · exact (z3 b hb).1 (by omega)
      · have := (z3 b hb).2 (by omega)
        rw [mI_ne (Or.inl (by omega)), mI_ne (Or.inr (by omega)), mI_ne (Or.inr (by omega)), mI_ne (Or.inl (by omega))] at this
        exact this
theorem C_clear {s : Nat} {M : gM} (L : k_LS M s) : Ok (F_X8_clear (some s) M) (fun M' => k_Fs s M M' ∧ (((M'.2.1 s 4 = 0 ∧ M'.2.1 s 5 = 0) ∧ M'.2.1 s 6 = 0) ∧ ∀ k, k < 7 → M'.2.1 (s + 3) k = 0 ∧ M'.2.1 (s + 4) k = -1) ∧ ∀ k, k < 49 → M'.2.1 (s + 1) k = 0 ∧ M'.2.1 (s + 2) k = 0) := by
  delta F_X8_clear F_X8_clear_b0
  exact Ok_w (C_clear_L2 g_fuel 0 (l := 0) L rfl (by decide) (by decide)) (fun M' z => ⟨z.1, z.2.1, fun k hk => (z.2.2 k hk).1 (Nat.zero_le _)⟩)
/-- a row copied -/
def k_cp (M : gM) (i i2 n : Nat) : gM := (M.1, g_row M.2.1 i2 (va_cpy (M.2.1 i) (M.2.1 i2) 0 0 n), M.2.2.1, M.2.2.2)
theorem x_cpI {i i2 n : Nat} {l : Int32} {M : gM} {β : Type} {f : gM → Option β} {Q : β → Prop} (h1 : g_k M i = (20, n)) (h2 : g_k M i2 = (20, n)) (hl : l.toInt = (n : Int)) (g : Ok (f (k_cp M i i2 n)) Q) : Ok ((cpI M (some i) (0 : Int32) (some i2) (0 : Int32) l).bind f) Q := by
  have z0 : (0 : Int32).toNatClampNeg = 0 := rfl
  have e : l.toNatClampNeg = n := i_cl hl
  have nl : ¬ l < 0 := fun h => by have := i_lt h; have z : (0 : Int32).toInt = 0 := rfl; omega
  unfold cpI
  rw [Option.bind_some, Option.bind_some, if_pos ⟨⟨by rw [h1], by rw [h2]⟩, ⟨⟨by decide, by decide⟩, nl⟩, by rw [z0, e, h1]; show 0 + n ≤ n; omega, by rw [z0, e, h2]; show 0 + n ≤ n; omega⟩, Option.bind_some, z0, e]
  exact g
theorem k_cp_eq {M : gM} {i i2 n k : Nat} (hk : k < n) : (k_cp M i i2 n).2.1 i2 k = M.2.1 i k := by
  show g_row M.2.1 i2 _ i2 k = _
  unfold g_row va_cpy
  simp
  omega
theorem k_cp_ne {M : gM} {i i2 n j : Nat} (hj : j ≠ i2) : (k_cp M i i2 n).2.1 j = M.2.1 j := g_row_ne _ _ hj
theorem k_Fs_cp {s : Nat} {M : gM} {i i2 n : Nat} (h : s ≤ i2 ∧ i2 ≤ s + 4) : k_Fs s M (k_cp M i i2 n) := ⟨⟨⟨rfl, rfl⟩, rfl⟩, fun j hj => k_cp_ne (by omega)⟩
/-- the State at s becomes the one at s2 -/
theorem C_copy {s s2 : Nat} {M : gM} (L : k_LS M s) (L2 : k_LS M s2) (hd : s + 4 < s2 ∨ s2 + 4 < s) : Ok (F_X8_copy (some s) (some s2) M) (fun M' => k_Fs s M M' ∧ ((M'.2.1 s 4 = M.2.1 s2 4 ∧ M'.2.1 s 5 = M.2.1 s2 5) ∧ M'.2.1 s 6 = M.2.1 s2 6) ∧ (∀ k, k < 49 → M'.2.1 (s + 1) k = M.2.1 (s2 + 1) k ∧ M'.2.1 (s + 2) k = M.2.1 (s2 + 2) k) ∧ ∀ k, k < 7 → M'.2.1 (s + 3) k = M.2.1 (s2 + 3) k ∧ M'.2.1 (s + 4) k = M.2.1 (s2 + 4) k) := by
  obtain ⟨⟨k, ⟨k1, k2⟩, k3, k4⟩, ⟨r0, r1⟩, r2, r3⟩ := L
  obtain ⟨⟨j, ⟨j1, j2⟩, j3, j4⟩, ⟨q0, q1⟩, q2, q3⟩ := L2
  delta F_X8_copy F_X8_copy_b0
  refine x_gR j q0 (x_gR k r0 (x_cpI (n := 49) j1 k1 rfl ?_))
  refine x_gR j q1 (x_gR k r1 (x_cpI (n := 49) j2 k2 rfl ?_))
  refine x_gR j q2 (x_gR k r2 (x_cpI (n := 7) j3 k3 rfl ?_))
  refine x_gR j q3 (x_gR k r3 (x_cpI (n := 7) j4 k4 rfl ?_))
  obtain ⟨M1, h1⟩ : ∃ M1, M1 = k_cp M (s2 + 1) (s + 1) 49 := ⟨_, rfl⟩
  obtain ⟨M2, h2⟩ : ∃ M2, M2 = k_cp M1 (s2 + 2) (s + 2) 49 := ⟨_, rfl⟩
  obtain ⟨M3, h3⟩ : ∃ M3, M3 = k_cp M2 (s2 + 3) (s + 3) 7 := ⟨_, rfl⟩
  obtain ⟨M4, h4⟩ : ∃ M4, M4 = k_cp M3 (s2 + 4) (s + 4) 7 := ⟨_, rfl⟩
  rw [← h1, ← h2, ← h3, ← h4]
  have f : k_Fs s M M4 := by
    rw [h4]
    refine k_Fs_tr ?_ (k_Fs_cp (by omega))
    rw [h3]
    refine k_Fs_tr ?_ (k_Fs_cp (by omega))
    rw [h2]
    refine k_Fs_tr ?_ (k_Fs_cp (by omega))
    rw [h1]
    exact k_Fs_cp (by omega)
  have v1 : ∀ b, b < 49 → M4.2.1 (s + 1) b = M.2.1 (s2 + 1) b := fun b hb => by
    rw [h4, k_cp_ne (by omega), h3, k_cp_ne (by omega), h2, k_cp_ne (by omega), h1, k_cp_eq hb]
  have v2 : ∀ b, b < 49 → M4.2.1 (s + 2) b = M.2.1 (s2 + 2) b := fun b hb => by
    rw [h4, k_cp_ne (by omega), h3, k_cp_ne (by omega), h2, k_cp_eq hb, h1, k_cp_ne (by omega)]
  have v3 : ∀ b, b < 7 → M4.2.1 (s + 3) b = M.2.1 (s2 + 3) b := fun b hb => by
    rw [h4, k_cp_ne (by omega), h3, k_cp_eq hb, h2, k_cp_ne (by omega), h1, k_cp_ne (by omega)]
  have v4 : ∀ b, b < 7 → M4.2.1 (s + 4) b = M.2.1 (s2 + 4) b := fun b hb => by
    rw [h4, k_cp_eq hb, h3, k_cp_ne (by omega), h2, k_cp_ne (by omega), h1, k_cp_ne (by omega)]
  have o2 : ∀ b, M4.2.1 s2 b = M.2.1 s2 b := fun b => by rw [f.2 s2 (by omega)]
  have kk : ∀ i, g_k M4 i = g_k M i := fun i => q_k_of f.1.1.1
  clear h1 h2 h3 h4
  refine x_gI ((kk _).trans j) (o2 4) (x_pI ((kk _).trans k) ?_)
  refine x_gI ((kk _).trans j) ((mI_ne (Or.inl (by omega))).trans (o2 5)) (x_pI ((kk _).trans k) ?_)
  refine x_gI ((kk _).trans j) (((mI_ne (Or.inl (by omega))).trans (mI_ne (Or.inl (by omega)))).trans (o2 6)) (x_pI ((kk _).trans k) ?_)
  refine Ok_s ⟨k_Fs_tr f (k_Fs_tr (k_Fs_up (by omega)) (k_Fs_tr (k_Fs_up (by omega)) (k_Fs_up (by omega)))), ⟨⟨?_, ?_⟩, ?_⟩, fun b hb => ⟨?_, ?_⟩, fun b hb => ⟨?_, ?_⟩⟩
  · rw [mI_ne (Or.inr (by decide)), mI_ne (Or.inr (by decide)), y_mI1]
  · rw [mI_ne (Or.inr (by decide)), y_mI1]
  · rw [y_mI1]
  · rw [mI_ne (Or.inl (by omega)), mI_ne (Or.inl (by omega)), mI_ne (Or.inl (by omega)), v1 b hb]
  · rw [mI_ne (Or.inl (by omega)), mI_ne (Or.inl (by omega)), mI_ne (Or.inl (by omega)), v2 b hb]
  · rw [mI_ne (Or.inl (by omega)), mI_ne (Or.inl (by omega)), mI_ne (Or.inl (by omega)), v3 b hb]
  · rw [mI_ne (Or.inl (by omega)), mI_ne (Or.inl (by omega)), mI_ne (Or.inl (by omega)), v4 b hb]
/-- so it says what that one says -/
theorem k_S_copy {M M' : gM} {s s2 : Nat} {σ : Nat → Int32} (S : k_S M s2 σ) (hn : (σ 1).toInt ≤ 7 ∧ (σ 2).toInt ≤ 7) (h1 : (M'.2.1 s 4 = M.2.1 s2 4 ∧ M'.2.1 s 5 = M.2.1 s2 5) ∧ M'.2.1 s 6 = M.2.1 s2 6) (h2 : ∀ k, k < 49 → M'.2.1 (s + 1) k = M.2.1 (s2 + 1) k ∧ M'.2.1 (s + 2) k = M.2.1 (s2 + 2) k) (h3 : ∀ k, k < 7 → M'.2.1 (s + 3) k = M.2.1 (s2 + 3) k ∧ M'.2.1 (s + 4) k = M.2.1 (s2 + 4) k) : k_S M' s σ := by
  obtain ⟨S1, S2, S3⟩ := S
  refine ⟨⟨⟨h1.1.1.trans S1.1.1, h1.1.2.trans S1.1.2⟩, h1.2.trans S1.2⟩, fun h hh => ⟨(h3 h (by omega)).1.trans (S2 h hh).1, fun t ht => ?_⟩, fun t ht => (h3 t (by omega)).2.trans (S3 t ht)⟩
  have c := (S2 h hh).2 t ht
  have e := h2 (7 * h + t) (by omega)
  unfold k_c at c ⊢
  rw [e.1, e.2]
  exact c
/-! a new House -/
theorem nw_k {M : gM} {q : Nat × Nat} {i : Nat} (h : i < M.1.length) : g_k (nw q M) i = g_k M i := by
  show (M.1 ++ [q]).getD i (99, 0) = M.1.getD i (99, 0)
  rw [List.getD_eq_getElem?_getD, List.getD_eq_getElem?_getD, List.getElem?_append_left h]
theorem nw_k1 {M : gM} {q : Nat × Nat} : g_k (nw q M) M.1.length = q := by
  show (M.1 ++ [q]).getD M.1.length (99, 0) = q
  rw [List.getD_eq_getElem?_getD, List.getElem?_concat_length]
  rfl
def nh_F (x e : Nat) (M M' : gM) : Prop := (∀ i, i < e → g_k M' i = g_k M i) ∧ ∀ i, i < e → M'.2.1 i = M.2.1 i ∧ M'.2.2.1 i = M.2.2.1 i ∧ (i ≠ x → M'.2.2.2 i = M.2.2.2 i)
theorem nh_step {M : gM} {x k : Nat} (K : g_k M x = (1, 0)) (hx : x < M.1.length) : ∃ M', pR 1 (nw (20, 7) M) (some x) k (some M.1.length) = some M' ∧ (M'.1.length = M.1.length + 1 ∧ g_k M' M.1.length = (20, 7)) ∧ nh_F x M.1.length M M' ∧ (∀ b, M'.2.1 M.1.length b = 0) ∧ M'.2.2.2 x k = some M.1.length ∧ ∀ b, b ≠ k → M'.2.2.2 x b = M.2.2.2 x b := by
  have K1 : g_k (nw (20, 7) M) x = (1, 0) := (nw_k hx).trans K
  refine ⟨mR (nw (20, 7) M) x k (some M.1.length), ?_, ⟨?_, nw_k1⟩, ⟨fun i hi => nw_k hi, fun i hi => ⟨g_row_ne _ _ (by omega), g_row_ne _ _ (by omega), fun hx2 => ?_⟩⟩, fun b => ?_, ?_, fun b hb => ?_⟩
  · unfold pR
    rw [Option.bind_some, if_pos K1]
  · show (M.1 ++ [((20 : Nat), (7 : Nat))]).length = _
    rw [List.length_append]
    rfl
  · show g_up (g_row M.2.2.2 M.1.length (fun _ => none)) x k (some M.1.length) i = _
    rw [g_up_ne _ _ _ hx2, g_row_ne _ _ (by omega)]
  · show g_row M.2.1 M.1.length (fun _ => 0) M.1.length b = 0
    unfold g_row
    rw [if_pos rfl]
  · show g_up (g_row M.2.2.2 M.1.length (fun _ => none)) x k (some M.1.length) x k = _
    unfold g_up
    rw [if_pos rfl, if_pos rfl]
  · show g_up (g_row M.2.2.2 M.1.length (fun _ => none)) x k (some M.1.length) x b = _
    unfold g_up
    rw [if_pos rfl, if_neg hb, g_row_ne _ _ (by omega)]
theorem nh_tr {x e e2 : Nat} {M M1 M2 : gM} (h1 : nh_F x e M M1) (h2 : nh_F x e2 M1 M2) (he : e ≤ e2) : nh_F x e M M2 := ⟨fun i hi => (h2.1 i (by omega)).trans (h1.1 i hi), fun i hi => ⟨(h2.2 i (by omega)).1.trans (h1.2 i hi).1, (h2.2 i (by omega)).2.1.trans (h1.2 i hi).2.1, fun hx => ((h2.2 i (by omega)).2.2 hx).trans ((h1.2 i hi).2.2 hx)⟩⟩
theorem C_newHouse {M : gM} {e : Nat} (he : e = M.1.length) : ∃ M', F_X1_init e (nw (1, 0) M) = some M' ∧ k_LE M' e ∧ M'.1.length = e + 6 ∧ (∀ i, i < e → (g_k M' i = g_k M i ∧ M'.2.1 i = M.2.1 i) ∧ M'.2.2.1 i = M.2.2.1 i ∧ M'.2.2.2 i = M.2.2.2 i) ∧ ∀ i, e ≤ i → i ≤ e + 5 → ∀ k, M'.2.1 i k = 0 := by
  subst he
  obtain ⟨x, hx⟩ : ∃ x, x = M.1.length := ⟨_, rfl⟩
  rw [← hx]
  obtain ⟨M0, h0⟩ : ∃ M0, M0 = nw (1, 0) M := ⟨_, rfl⟩
  rw [← h0]
  have l0 : M0.1.length = x + 1 := by
    rw [h0, hx]
    show (M.1 ++ [((1 : Nat), (0 : Nat))]).length = _
    rw [List.length_append]
    rfl
  have K0 : g_k M0 x = (1, 0) := by rw [h0, hx]; exact nw_k1
  have f0 : ∀ i, i < x → (g_k M0 i = g_k M i ∧ M0.2.1 i = M.2.1 i) ∧ M0.2.2.1 i = M.2.2.1 i ∧ M0.2.2.2 i = M.2.2.2 i := fun i hi => by
    rw [h0]
    exact ⟨⟨nw_k (by omega), g_row_ne _ _ (by omega)⟩, g_row_ne _ _ (by omega), g_row_ne _ _ (by omega)⟩
  have z0 : ∀ b, M0.2.1 x b = 0 := fun b => by
    rw [h0, hx]
    show g_row M.2.1 M.1.length (fun _ => 0) M.1.length b = 0
    unfold g_row
    rw [if_pos rfl]
  clear h0
  delta F_X1_init F_X1_init_b0
  obtain ⟨M1, e1, ⟨l1, c1⟩, f1, z1, r1, s1⟩ := nh_step (k := 0) K0 (by omega)
  rw [e1, Option.bind_some]
  rw [l0] at l1 c1 f1 z1 r1
  have K1 := (f1.1 x (by omega)).trans K0
  obtain ⟨M2, e2, ⟨l2, c2⟩, f2, z2, r2, s2⟩ := nh_step (k := 1) K1 (by omega)
  rw [e2, Option.bind_some]
  rw [l1] at l2 c2 f2 z2 r2
  have K2 := (f2.1 x (by omega)).trans K1
  obtain ⟨M3, e3, ⟨l3, c3⟩, f3, z3, r3, s3⟩ := nh_step (k := 2) K2 (by omega)
  rw [e3, Option.bind_some]
  rw [l2] at l3 c3 f3 z3 r3
  have K3 := (f3.1 x (by omega)).trans K2
  obtain ⟨M4, e4, ⟨l4, c4⟩, f4, z4, r4, s4⟩ := nh_step (k := 3) K3 (by omega)
  rw [e4, Option.bind_some]
  rw [l3] at l4 c4 f4 z4 r4
  have K4 := (f4.1 x (by omega)).trans K3
  obtain ⟨M5, e5, ⟨l5, c5⟩, f5, z5, r5, s5⟩ := nh_step (k := 4) K4 (by omega)
  rw [e5, Option.bind_some]
  rw [l4] at l5 c5 f5 z5 r5
  have K5 := (f5.1 x (by omega)).trans K4
  have g2 := nh_tr f1 f2 (by omega)
  have g3 := nh_tr g2 f3 (by omega)
  have g4 := nh_tr g3 f4 (by omega)
  have g5 := nh_tr g4 f5 (by omega)
  have zx : ∀ b, M5.2.1 x b = 0 := fun b => by rw [(g5.2 x (by omega)).1]; exact z0 b
  have p : ∀ k, pI 1 M5 (some x) k (0 : Int32) = some M5 := fun k => by rw [t_pI K5, mI_self (zx k)]
  rw [p, Option.bind_some, p, Option.bind_some, p, Option.bind_some, p, Option.bind_some, p, Option.bind_some, p, Option.bind_some]
  refine ⟨M5, rfl, ⟨K5, fun i hi => ?_⟩, by omega, fun i hi => ?_, fun i hi h2 b => ?_⟩
  · rcases (by omega : i = 0 ∨ i = 1 ∨ i = 2 ∨ i = 3 ∨ i = 4) with h | h | h | h | h <;> subst h
    · exact ⟨by rw [(nh_tr f2 (nh_tr f3 (nh_tr f4 f5 (by omega)) (by omega)) (by omega)).1 _ (by omega)]; exact c1, by rw [s5 0 (by decide), s4 0 (by decide), s3 0 (by decide), s2 0 (by decide)]; exact r1⟩
    · exact ⟨by rw [(nh_tr f3 (nh_tr f4 f5 (by omega)) (by omega)).1 _ (by omega)]; exact c2, by rw [s5 1 (by decide), s4 1 (by decide), s3 1 (by decide)]; exact r2⟩
    · exact ⟨by rw [(nh_tr f4 f5 (by omega)).1 _ (by omega)]; exact c3, by rw [s5 2 (by decide), s4 2 (by decide)]; exact r3⟩
    · exact ⟨by rw [f5.1 _ (by omega)]; exact c4, by rw [s5 3 (by decide)]; exact r4⟩
    · exact ⟨c5, r5⟩
  · have a := f0 i hi
    have b := g5.2 i (by omega)
    exact ⟨⟨(g5.1 i (by omega)).trans a.1.1, b.1.trans a.1.2⟩, b.2.1.trans a.2.1, (b.2.2 (by omega)).trans a.2.2⟩
  · rcases (by omega : i = x ∨ i = x + 1 ∨ i = x + 1 + 1 ∨ i = x + 1 + 1 + 1 ∨ i = x + 1 + 1 + 1 + 1 ∨ i = x + 1 + 1 + 1 + 1 + 1) with h | h | h | h | h | h <;> subst h
    · exact zx b
    · rw [((nh_tr f2 (nh_tr f3 (nh_tr f4 f5 (by omega)) (by omega)) (by omega)).2 _ (by omega)).1]
      exact z1 b
    · rw [((nh_tr f3 (nh_tr f4 f5 (by omega)) (by omega)).2 _ (by omega)).1]
      exact z2 b
    · rw [((nh_tr f4 f5 (by omega)).2 _ (by omega)).1]
      exact z3 b
    · rw [(f5.2 _ (by omega)).1]
      exact z4 b
    · exact z5 b
-- 7q.8b.hcls
/-! the class reads a HOUSE -/
def hc_w (e i k : Nat) : Prop := (i = 131 ∧ (k = 5 ∨ k = 7)) ∨ (e ≤ i ∧ i ≤ e + 5) ∨ (143 ≤ i ∧ i ≤ 147)
def hc_Fr (e : Nat) (M M' : gM) : Prop := ((M'.1 = M.1 ∧ M'.2.2.1 = M.2.2.1) ∧ M'.2.2.2 = M.2.2.2) ∧ ∀ i k, ¬ hc_w e i k → M'.2.1 i k = M.2.1 i k
theorem hc_rf {e : Nat} {M : gM} : hc_Fr e M M := ⟨⟨⟨rfl, rfl⟩, rfl⟩, fun _ _ _ => rfl⟩
theorem hc_tr {e : Nat} {M M1 M2 : gM} (h1 : hc_Fr e M M1) (h2 : hc_Fr e M1 M2) : hc_Fr e M M2 := ⟨⟨⟨h2.1.1.1.trans h1.1.1.1, h2.1.1.2.trans h1.1.1.2⟩, h2.1.2.trans h1.1.2⟩, fun i k h => (h2.2 i k h).trans (h1.2 i k h)⟩
theorem hc_57 {e : Nat} {M M' : gM} (h : z_57 M M') : hc_Fr e M M' := ⟨⟨⟨h.1.1.1, h.1.1.2.1⟩, h.1.1.2.2⟩, fun i k hw => h.2 i k (fun z => hw (Or.inl z))⟩
theorem hc_up {e : Nat} {M : gM} {i k : Nat} {v : Int32} (h : hc_w e i k) : hc_Fr e M (mI M i k v) := ⟨⟨⟨rfl, rfl⟩, rfl⟩, fun j a hj => mI_ne (by
  by_cases e1 : j = i
  · subst e1
    refine Or.inr (fun e2 => ?_)
    subst e2
    exact hj h
  · exact Or.inl e1)⟩
def hc_L (M : gM) (e : Nat) : Prop := ((g_k M 136 = (2, 0) ∧ M.2.2.2 136 0 = some 131) ∧ (M.2.2.2 136 1 = some e ∧ M.2.2.2 136 2 = some 143)) ∧ (k_LE M e ∧ k_LS M 143) ∧ 197 ≤ e
def hc_X (M : gM) (e : Nat) (σ : Nat → Int32) : Prop := ((0 ≤ (σ 1).toInt ∧ (σ 1).toInt ≤ 7) ∧ (0 ≤ (σ 2).toInt ∧ (σ 2).toInt ≤ 7) ∧ 0 ≤ (σ 3).toInt ∧ (σ 3).toInt ≤ 10) ∧ (∀ h : Nat, (σ 2).toInt ≤ (h : Int) → h < 7 → M.2.1 (e + 5) h = 0 ∧ ∀ t, t < 7 → M.2.1 145 (7 * h + t) = 0) ∧ ∀ t, t < 7 → M.2.1 147 t = -1
def hc_V (M : gM) (e : Nat) (σ : Nat → Int32) : Prop := (k_E M e σ ∧ k_S M 143 σ) ∧ hc_X M e σ
def hc_R (T M : gM) (e : Nat) (x : hS) : Prop := (z_C T M x.1 ∧ M.2.1 131 7 = 0) ∧ hc_L M e ∧ hc_V M e x.2
def hc_Y (T M : gM) (e er : Nat) : Prop := ((∃ p, z_C T M p) ∧ (M.2.1 131 7).toInt = (er : Int) ∧ er ≠ 0) ∧ hc_L M e
def hc_P (T M : gM) (e : Nat) (r : hs_R) : Prop := match r with
  | .inl er => hc_Y T M e er
  | .inr y => hc_R T M e y
theorem z_Cy {T M M' : gM} {p : Nat} (C : z_C T M p) (h1 : ∀ i, 131 ≤ i → i ≤ 150 → g_k M' i = g_k M i) (h2 : ∀ i k, i = 131 ∨ i = 148 → M'.2.2.2 i k = M.2.2.2 i k) (o : ∀ i k, 131 ≤ i → i ≤ 135 → M'.2.1 i k = M.2.1 i k) : z_C T M' p := by
  obtain ⟨⟨⟨L, B⟩, z1, z2⟩, N, j, hE, ⟨p1, p2⟩, hj, h5, hp⟩ := C
  refine ⟨⟨⟨?_, B⟩, ?_, ?_⟩, N, j, hE, ⟨?_, fun i hi => ?_⟩, hj, ?_, hp⟩
  · unfold z_L at L ⊢
    rw [h1 131 (by omega) (by omega), h1 132 (by omega) (by omega), h1 133 (by omega) (by omega), h1 134 (by omega) (by omega), h1 135 (by omega) (by omega), h1 148 (by omega) (by omega), h1 149 (by omega) (by omega), h1 150 (by omega) (by omega), h2 131 0 (by omega), h2 131 1 (by omega), h2 131 2 (by omega), h2 131 3 (by omega), h2 148 0 (by omega), h2 148 1 (by omega), h2 148 2 (by omega)]
    exact L
  · rw [← z1]
    exact funext (fun k => o 132 k (by omega) (by omega))
  · rw [o 131 6 (by omega) (by omega)]
    exact z2
  · rw [o 131 4 (by omega) (by omega)]
    exact p1
  · rw [o 133 _ (by omega) (by omega), o 134 _ (by omega) (by omega), o 135 _ (by omega) (by omega)]
    exact p2 i hi
  · rw [o 131 5 (by omega) (by omega)]
    exact h5
theorem z_Cx {T M M' : gM} {p : Nat} (C : z_C T M p) (h1 : ∀ i, g_k M' i = g_k M i) (h2 : M'.2.2.2 = M.2.2.2) (o : ∀ i k, 131 ≤ i → i ≤ 135 → M'.2.1 i k = M.2.1 i k) : z_C T M' p := z_Cy C (fun i _ _ => h1 i) (fun i k _ => by rw [h2]) o
theorem hc_Lm {M M' : gM} {e : Nat} (L : hc_L M e) (f : hc_Fr e M M') : hc_L M' e := by
  have hk : ∀ i, g_k M' i = g_k M i := fun i => q_k_of f.1.1.1
  have hr := f.1.2
  obtain ⟨⟨⟨a, b⟩, c, d⟩, ⟨LE, LS⟩, he⟩ := L
  exact ⟨⟨⟨(hk _).trans a, by rw [hr]; exact b⟩, by rw [hr]; exact c, by rw [hr]; exact d⟩, ⟨k_LEm LE hk hr, k_LSm LS hk hr⟩, he⟩
theorem hc_Vm {M M' : gM} {e : Nat} {σ : Nat → Int32} (V : hc_V M e σ) (h : z_57 M M') (he : 197 ≤ e) : hc_V M' e σ := by
  have o : ∀ i k, i ≠ 131 → M'.2.1 i k = M.2.1 i k := fun i k hi => h.2 i k (fun z => hi z.1)
  obtain ⟨⟨E, S⟩, X1, X2, X3⟩ := V
  refine ⟨⟨k_Em E (fun i k h1 h2 _ => o i k (by omega)), k_Sm S (fun i k h1 h2 => o i k (by omega))⟩, X1, fun h h1 h2 => ?_, fun t ht => ?_⟩
  · rw [o (e + 5) h (by omega)]
    refine ⟨(X2 h h1 h2).1, fun t ht => ?_⟩
    rw [o 145 _ (by omega)]
    exact (X2 h h1 h2).2 t ht
  · rw [o 147 t (by omega)]
    exact X3 t ht
theorem C_num {T M : gM} {p : Nat} {lo hi : Int32} {l h : Int} (C : z_C T M p) (f0 : M.2.1 131 7 = 0) (hl : lo.toInt = l) (hh : hi.toInt = h) (h0 : 0 ≤ l) (h1 : h ≤ 999999) : Ok (F_X9_number (some 131) lo hi M) (fun r => z_57 M r.2 ∧ (match hs_num T p l h with
    | .inl er => r.1 = -1 ∧ (∃ q, z_C T r.2 q) ∧ (r.2.2.1 131 7).toInt = (er : Int) ∧ er ≠ 0
    | .inr y => (r.1 = y.2 ∧ l ≤ y.2.toInt ∧ y.2.toInt ≤ h) ∧ z_C T r.2 y.1 ∧ r.2.2.1 131 7 = 0)) := by
  subst hl
  subst hh
  refine Ok_w (C_number C f0 h0 h1) (fun r z => ?_)
  obtain ⟨z1, z2, z3⟩ := z
  unfold hs_num
  by_cases cD : n_D T p = true
  · rw [if_pos cD]
    by_cases cO : n_ok T p lo.toInt hi.toInt = true
    · obtain ⟨a1, a2, a3⟩ := z1 ⟨cD, cO⟩
      rw [if_pos cO]
      exact ⟨z_57a a3, ⟨a1, (of_decide_eq_true cO).2⟩, a2, by rw [a3.2 131 7 (by omega)]; exact f0⟩
    · obtain ⟨a1, a2, a3, a4⟩ := z2 ⟨cD, cO⟩
      rw [if_neg cO]
      exact ⟨z_57b a3, a1, ⟨_, a2⟩, a4, by omega⟩
  · obtain ⟨a1, a2, a3, a4⟩ := z3 cD
    rw [if_neg cD]
    exact ⟨z_57b a3, a1, ⟨_, a2⟩, a4, by omega⟩
theorem hc_Yn {T M : gM} {e er : Nat} (Y : hc_Y T M e er) : M.2.1 131 7 ≠ 0 := by
  intro h
  have := Y.1.2.1
  rw [h] at this
  have z0 : (0 : Int32).toInt = 0 := rfl
  have := Y.1.2.2
  omega
theorem hc_Yk {T M : gM} {e er : Nat} (Y : hc_Y T M e er) : g_k M 131 = (9, 0) := by
  obtain ⟨p, C⟩ := Y.1.1
  exact z_k131 C
/-- in a FAULT a number is passed over -/
theorem x_numF {T M : gM} {e er : Nat} {lo hi : Int32} {β : Type} {f : Int32 × gM → Option β} {Q : β → Prop} (Y : hc_Y T M e er) (g : Ok (f (-1, M)) Q) : Ok ((F_X9_number (some 131) lo hi M).bind f) Q := x_eq (C_numberF (hc_Yk Y) (hc_Yn Y)) g
theorem x_tx {T M : gM} {e er : Nat} {β : Type} {f : Nat → Option β} {Q : β → Prop} (Y : hc_Y T M e er) (g : Ok (f 131) Q) : Ok ((gR 2 M (some 136) 0).bind fun v => (gO 9 M v).bind f) Q := x_gR Y.2.1.1.1 Y.2.1.1.2 (x_gO (hc_Yk Y) g)
theorem x_faultF {T M : gM} {e er : Nat} {β : Type} {f : Int32 → Option β} {Q : β → Prop} (Y : hc_Y T M e er) (g : Ok (f 1) Q) : Ok ((F_X9_isFaulty (some 131) M).bind f) Q := x_eq (by rw [C_faulty (hc_Yk Y), if_neg (hc_Yn Y)]) g
theorem x_fault0 {M : gM} {β : Type} {f : Int32 → Option β} {Q : β → Prop} (k : g_k M 131 = (9, 0)) (h : M.2.1 131 7 = 0) (g : Ok (f 0) Q) : Ok ((F_X9_isFaulty (some 131) M).bind f) Q := x_eq (by rw [C_faulty k, if_pos h]) g
theorem hc_sq {T M : gM} {e : Nat} {p : Nat} {σ : Nat → Int32} {M' : gM} (L : hc_L M e) (V : hc_V M e σ) (h : z_57 M M') (C : z_C T M' p) (f : M'.2.1 131 7 = 0) : hc_R T M' e (p, σ) := ⟨⟨C, f⟩, hc_Lm L (hc_57 h), hc_Vm V h L.2.2⟩
/-- one number of a clause: read, or a FAULT -/
theorem x_num {T M M0 : gM} {e : Nat} {x : hS} {lo hi : Int32} {l h : Int} {β : Type} {f : Int32 × gM → Option β} {Q : β → Prop} (R : hc_R T M e x) (F : hc_Fr e M0 M) (hl : lo.toInt = l) (hh : hi.toInt = h) (h0 : 0 ≤ l) (h1 : h ≤ 999999)
    (bad : ∀ er M', hs_num T x.1 l h = .inl er → hc_Fr e M0 M' → hc_Y T M' e er → Ok (f (-1, M')) Q)
    (go : ∀ y M', hs_num T x.1 l h = .inr y → hc_Fr e M0 M' → hc_R T M' e (y.1, x.2) → (l ≤ y.2.toInt ∧ y.2.toInt ≤ h) → Ok (f (y.2, M')) Q) : Ok ((F_X9_number (some 131) lo hi M).bind f) Q := by
  refine Ok_b (C_num R.1.1 R.1.2 hl hh h0 h1) (fun r z => ?_)
  obtain ⟨v, M'⟩ := r
  obtain ⟨z1, z2⟩ := z
  have F' := hc_tr F (hc_57 (e := e) z1)
  cases hit : hs_num T x.1 l h with
  | inl er =>
    rw [hit] at z2
    obtain ⟨a, b, c, d⟩ := z2
    dsimp only at a
    subst a
    exact bad er M' hit F' ⟨⟨b, c, d⟩, hc_Lm R.2.1 (hc_57 z1)⟩
  | inr y =>
    rw [hit] at z2
    obtain ⟨⟨a, b⟩, c, d⟩ := z2
    dsimp only at a
    subst a
    exact go y M' hit F' (hc_sq R.2.1 R.2.2 z1 c d) b
theorem x_txR {T M : gM} {e : Nat} {x : hS} {β : Type} {f : Nat → Option β} {Q : β → Prop} (R : hc_R T M e x) (g : Ok (f 131) Q) : Ok ((gR 2 M (some 136) 0).bind fun v => (gO 9 M v).bind f) Q := x_gR R.2.1.1.1.1 R.2.1.1.1.2 (x_gO (z_k131 R.1.1) g)
theorem k_cm {M M' : gM} {s h t : Nat} {σ σ' : Nat → Int32} (H : k_c M s σ h t) (h1 : M'.2.1 (s + 1) (7 * h + t) = M.2.1 (s + 1) (7 * h + t)) (h2 : M'.2.1 (s + 2) (7 * h + t) = M.2.1 (s + 2) (7 * h + t)) (h3 : σ' (59 + 14 * h + 2 * t) = σ (59 + 14 * h + 2 * t)) (h4 : σ' (60 + 14 * h + 2 * t) = σ (60 + 14 * h + 2 * t)) : k_c M' s σ' h t := by
  unfold k_c at H ⊢
  rw [h1, h2, h3, h4]
  exact H
/-! clauses -/
theorem C_readThing {T M : gM} {e : Nat} {x : hS} (R : hc_R T M e x) (hn : (x.2 1).toInt < 7) : Ok (F_X2_readThing (some 136) M) (fun M' => hc_Fr e M M' ∧ hc_P T M' e (hs_thing T x)) := by
  delta F_X2_readThing F_X2_readThing_b0
  refine x_txR R ?_
  unfold hs_thing
  refine x_num R hc_rf (l := 0) (h := 9) rfl rfl (by decide) (by decide) (fun er M4 hit F4 Y => ?_) (fun y3 M4 hit F4 R4 v3 => ?_)
  · rw [hit, hs_bl]
    refine x_tx Y (x_numF Y ?_)
    refine x_tx Y (x_numF Y ?_)
    refine x_tx Y (x_faultF Y ?_)
    exact Ok_e (by decide) (Ok_s ⟨F4, Y⟩)
  rw [hit, hs_br]
  refine x_txR R4 ?_
  refine x_num R4 F4 (l := 0) (h := 20) rfl rfl (by decide) (by decide) (fun er M8 hit F8 Y => ?_) (fun y7 M8 hit F8 R8 v7 => ?_)
  · dsimp only at hit ⊢
    rw [hit, hs_bl]
    refine x_tx Y (x_numF Y ?_)
    refine x_tx Y (x_faultF Y ?_)
    exact Ok_e (by decide) (Ok_s ⟨F8, Y⟩)
  dsimp only at hit ⊢
  rw [hit, hs_br]
  refine x_txR R8 ?_
  refine x_num R8 F8 (l := 0) (h := 99) rfl rfl (by decide) (by decide) (fun er M12 hit F12 Y => ?_) (fun y11 M12 hit F12 R12 v11 => ?_)
  · dsimp only at hit ⊢
    rw [hit, hs_bl]
    refine x_tx Y (x_faultF Y ?_)
    exact Ok_e (by decide) (Ok_s ⟨F12, Y⟩)
  dsimp only at hit ⊢
  rw [hit, hs_br]
  refine x_txR R12 ?_
  obtain ⟨⟨C, f0⟩, L, ⟨⟨E1, E2, E3, E4⟩, S1, S2, S3⟩, X1, X2, X3⟩ := R12
  dsimp only at C E1 E2 E3 E4 S1 S2 S3 X1 X2 X3
  refine x_fault0 (z_k131 C) f0 ?_
  refine Ok_t rfl ?_
  obtain ⟨⟨⟨k136, r0⟩, r1, r2⟩, ⟨⟨ke, kr⟩, LS⟩, he⟩ := L
  have L0 : hc_L M12 e := ⟨⟨⟨k136, r0⟩, r1, r2⟩, ⟨⟨ke, kr⟩, LS⟩, he⟩
  have a1 : M12.2.2.2 e 0 = some (e + 1) := (kr 0 (by decide)).2
  have a2 : M12.2.2.2 e 1 = some (e + 2) := (kr 1 (by decide)).2
  have a3 : M12.2.2.2 e 2 = some (e + 3) := (kr 2 (by decide)).2
  have b1 : g_k M12 (e + 1) = (20, 7) := (kr 0 (by decide)).1
  have b2 : g_k M12 (e + 2) = (20, 7) := (kr 1 (by decide)).1
  have b3 : g_k M12 (e + 3) = (20, 7) := (kr 2 (by decide)).1
  have z7 : (7 : Int32).toInt = 7 := rfl
  obtain ⟨n, en⟩ : ∃ n : Nat, (x.2 1).toInt = (n : Int) := ⟨(x.2 1).toInt.toNat, by omega⟩
  have hnn : hs_n x.2 = n := i_cl en
  have inc : (x.2 1 + 1).toInt = (n : Int) + 1 := by rw [i_addc (n := 1) rfl (by omega) (by omega)]; omega
  refine x_gR k136 r1 (x_gI ke E1.1.1 ?_)
  refine Ok_e (fun c => by have := i_le c; omega) ?_
  refine x_gR k136 r1 (x_gR ke a1 (x_gR k136 r1 (x_gI ke E1.1.1 ?_)))
  refine x_sI b1 en (by omega) ?_
  refine x_gR k136 r1 (x_gR ke a2 (x_gR k136 r1 (x_gI ke ((mI_ne (Or.inl (by omega))).trans E1.1.1) ?_)))
  refine x_sI b2 en (by omega) ?_
  refine x_gR k136 r1 (x_gR ke a3 (x_gR k136 r1 (x_gI ke (((mI_ne (Or.inl (by omega))).trans (mI_ne (Or.inl (by omega)))).trans E1.1.1) ?_)))
  refine x_sI b3 en (by omega) ?_
  refine x_gR k136 r1 (x_gI ke ((((mI_ne (Or.inl (by omega))).trans (mI_ne (Or.inl (by omega)))).trans (mI_ne (Or.inl (by omega)))).trans E1.1.1) ?_)
  refine x_pI ke ?_
  obtain ⟨M35, h35⟩ : ∃ M35, M35 = mI (mI (mI (mI M12 (e + 1) n y3.2) (e + 2) n y7.2) (e + 3) n y11.2) e 6 (x.2 1 + 1) := ⟨_, rfl⟩
  rw [← h35]
  have o : ∀ i k, M35.2.1 i k = if i = e ∧ k = 6 then x.2 1 + 1 else if i = e + 3 ∧ k = n then y11.2 else if i = e + 2 ∧ k = n then y7.2 else if i = e + 1 ∧ k = n then y3.2 else M12.2.1 i k := fun i k => by
    rw [h35]
    simp only [mI_if]
  have F35 : hc_Fr e M12 M35 := by
    rw [h35]
    exact hc_tr (hc_up (by unfold hc_w; omega)) (hc_tr (hc_up (by unfold hc_w; omega)) (hc_tr (hc_up (by unfold hc_w; omega)) (hc_up (by unfold hc_w; omega))))
  have oo : ∀ i k, i < e → M35.2.1 i k = M12.2.1 i k := fun i k hi => by
    rw [o, if_neg (by omega), if_neg (by omega), if_neg (by omega), if_neg (by omega)]
  clear h35
  rw [hnn]
  have oe : ∀ k, k ≠ 6 → M35.2.1 e k = M12.2.1 e k := fun k hk => by
    rw [o, if_neg (by omega), if_neg (by omega), if_neg (by omega), if_neg (by omega)]
  have of : ∀ i k, i < e ∨ e + 3 < i → M35.2.1 i k = M12.2.1 i k := fun i k hi => by
    rw [o, if_neg (by omega), if_neg (by omega), if_neg (by omega), if_neg (by omega)]
  have oa : ∀ i k, e < i → k ≠ n → M35.2.1 i k = M12.2.1 i k := fun i k hi hk => by
    rw [o, if_neg (by omega), if_neg (by omega), if_neg (by omega), if_neg (by omega)]
  obtain ⟨σ, hσ⟩ : ∃ σ, σ = hs_set (hs_set (hs_set (hs_set (hs_set x.2 (10 + 4 * n) y3.2) (11 + 4 * n) y7.2) (12 + 4 * n) y11.2) (13 + 4 * n) (-1)) 1 (x.2 1 + 1) := ⟨_, rfl⟩
  rw [← hσ]
  have s : ∀ j, σ j = if j = 1 then x.2 1 + 1 else if j = 13 + 4 * n then -1 else if j = 12 + 4 * n then y11.2 else if j = 11 + 4 * n then y7.2 else if j = 10 + 4 * n then y3.2 else x.2 j := fun j => by
    rw [hσ]
    rfl
  have sk : ∀ j, j ≠ 1 → j < 10 + 4 * n ∨ 13 + 4 * n < j → σ j = x.2 j := fun j h1 h2 => by
    rw [s, if_neg (by omega), if_neg (by omega), if_neg (by omega), if_neg (by omega), if_neg (by omega)]
  have s1 : σ 1 = x.2 1 + 1 := by rw [s, if_pos rfl]
  clear hσ
  refine Ok_s ⟨hc_tr F12 F35, ⟨z_Cx C (fun i => q_k_of F35.1.1.1) F35.1.2 (fun i k h1 h2 => oo i k (by omega)), by rw [oo 131 7 (by omega)]; exact f0⟩, hc_Lm L0 F35, ⟨⟨⟨⟨?_, ?_⟩, ?_⟩, ⟨?_, ?_⟩, fun t ht => ?_, fun h hh => ?_⟩, ⟨⟨?_, ?_⟩, ?_⟩, fun h hh => ?_, fun t ht => ?_⟩, ⟨?_, ?_, ?_⟩, fun h h1 h2 => ?_, fun t ht => ?_⟩
  all_goals try dsimp only at *
  · rw [o, if_pos ⟨rfl, rfl⟩, s1]
  · rw [oe 7 (by decide), sk 2 (by decide) (by omega)]
    exact E1.1.2
  · rw [oe 8 (by decide), sk 3 (by decide) (by omega)]
    exact E1.2
  · rw [oe 9 (by decide), sk 7 (by decide) (by omega)]
    exact E2.1
  · rw [oe 10 (by decide), sk 6 (by decide) (by omega)]
    exact E2.2
  · rw [s1, inc] at ht
    by_cases et : t = n
    · subst et
      refine ⟨⟨?_, ?_⟩, ?_⟩
      · rw [o, if_neg (by omega), if_neg (by omega), if_neg (by omega), if_pos ⟨rfl, rfl⟩, s, if_neg (by omega), if_neg (by omega), if_neg (by omega), if_neg (by omega), if_pos rfl]
      · rw [o, if_neg (by omega), if_neg (by omega), if_pos ⟨rfl, rfl⟩, s, if_neg (by omega), if_neg (by omega), if_neg (by omega), if_pos rfl]
      · rw [o, if_neg (by omega), if_pos ⟨rfl, rfl⟩, s, if_neg (by omega), if_neg (by omega), if_pos rfl]
    · rw [oa (e + 1) t (by omega) et, oa (e + 2) t (by omega) et, oa (e + 3) t (by omega) et, sk (10 + 4 * t) (by omega) (by omega), sk (11 + 4 * t) (by omega) (by omega), sk (12 + 4 * t) (by omega) (by omega)]
      exact E3 t (by omega)
  · rw [sk 2 (by decide) (by omega)] at hh
    rw [of (e + 4) h (by omega), of (e + 5) h (by omega), sk (39 + 2 * h) (by omega) (by omega), sk (52 + h) (by omega) (by omega)]
    exact E4 h hh
  · rw [of 143 4 (by omega), sk 8 (by decide) (by omega)]
    exact S1.1.1
  · rw [of 143 5 (by omega), sk 4 (by decide) (by omega)]
    exact S1.1.2
  · rw [of 143 6 (by omega), sk 5 (by decide) (by omega)]
    exact S1.2
  · rw [sk 2 (by decide) (by omega)] at hh
    rw [of 146 h (by omega), sk (38 + 2 * h) (by omega) (by omega)]
    exact ⟨(S2 h hh).1, fun t ht => k_cm ((S2 h hh).2 t ht) (of 144 _ (by omega)) (of 145 _ (by omega)) (sk _ (by omega) (by omega)) (sk _ (by omega) (by omega))⟩
  · rw [s1, inc] at ht
    rw [of 147 t (by omega)]
    by_cases et : t = n
    · subst et
      rw [s, if_neg (by omega), if_pos rfl]
      exact X3 t (by omega)
    · rw [sk (13 + 4 * t) (by omega) (by omega)]
      exact S3 t (by omega)
  · rw [s1, inc]
    omega
  · rw [sk 2 (by decide) (by omega)]
    exact X1.2.1
  · rw [sk 3 (by decide) (by omega)]
    exact X1.2.2
  · rw [sk 2 (by decide) (by omega)] at h1
    rw [of (e + 5) h (by omega)]
    refine ⟨(X2 h h1 h2).1, fun t ht => ?_⟩
    rw [of 145 _ (by omega)]
    exact (X2 h h1 h2).2 t ht
  · rw [of 147 t (by omega)]
    exact X3 t ht
-- 7r.8c.hcls2
theorem C_readHeir {T M : gM} {e : Nat} {x : hS} (R : hc_R T M e x) (hn : (x.2 2).toInt < 7) : Ok (F_X2_readHeir (some 136) M) (fun M' => hc_Fr e M M' ∧ hc_P T M' e (hs_heir T x)) := by
  delta F_X2_readHeir F_X2_readHeir_b0
  refine x_txR R ?_
  unfold hs_heir
  refine x_num R hc_rf (l := 0) (h := 99) rfl rfl (by decide) (by decide) (fun er M4 hit F4 Y => ?_) (fun y3 M4 hit F4 R4 v3 => ?_)
  · rw [hit, hs_bl]
    refine x_tx Y (x_numF Y ?_)
    refine x_tx Y (x_faultF Y ?_)
    exact Ok_e (by decide) (Ok_s ⟨F4, Y⟩)
  rw [hit, hs_br]
  refine x_txR R4 ?_
  refine x_num R4 F4 (l := 0) (h := 100) rfl rfl (by decide) (by decide) (fun er M8 hit F8 Y => ?_) (fun y7 M12 hit F12 R12 v7 => ?_)
  · dsimp only at hit ⊢
    rw [hit, hs_bl]
    refine x_tx Y (x_faultF Y ?_)
    exact Ok_e (by decide) (Ok_s ⟨F8, Y⟩)
  dsimp only at hit ⊢
  rw [hit, hs_br]
  refine x_txR R12 ?_
  obtain ⟨⟨C, f0⟩, L, ⟨⟨E1, E2, E3, E4⟩, S1, S2, S3⟩, X1, X2, X3⟩ := R12
  dsimp only at C E1 E2 E3 E4 S1 S2 S3 X1 X2 X3
  refine x_fault0 (z_k131 C) f0 ?_
  refine Ok_t rfl ?_
  obtain ⟨⟨⟨k136, r0⟩, r1, r2⟩, ⟨⟨ke, kr⟩, LS⟩, he⟩ := L
  have L0 : hc_L M12 e := ⟨⟨⟨k136, r0⟩, r1, r2⟩, ⟨⟨ke, kr⟩, LS⟩, he⟩
  have a4 : M12.2.2.2 e 3 = some (e + 4) := (kr 3 (by decide)).2
  have b4 : g_k M12 (e + 4) = (20, 7) := (kr 3 (by decide)).1
  have k143 : g_k M12 143 = (8, 0) := LS.1.1
  have k146 : g_k M12 146 = (20, 7) := LS.1.2.2.1
  have r146 : M12.2.2.2 143 2 = some 146 := LS.2.2.1
  have z7 : (7 : Int32).toInt = 7 := rfl
  obtain ⟨m, em⟩ : ∃ m : Nat, (x.2 2).toInt = (m : Int) := ⟨(x.2 2).toInt.toNat, by omega⟩
  have hmm : hs_m x.2 = m := i_cl em
  have inc : (x.2 2 + 1).toInt = (m : Int) + 1 := by rw [i_addc (n := 1) rfl (by omega) (by omega)]; omega
  refine x_gR k136 r1 (x_gI ke E1.1.2 ?_)
  refine Ok_e (fun c => by have := i_le c; omega) ?_
  refine x_gR k136 r2 (x_gR k143 r146 (x_gR k136 r1 (x_gI ke E1.1.2 ?_)))
  refine x_sI k146 em (by omega) ?_
  refine x_gR k136 r1 (x_gR ke a4 (x_gR k136 r1 (x_gI ke ((mI_ne (Or.inl (by omega))).trans E1.1.2) ?_)))
  refine x_sI b4 em (by omega) ?_
  refine x_gR k136 r1 (x_gI ke (((mI_ne (Or.inl (by omega))).trans (mI_ne (Or.inl (by omega)))).trans E1.1.2) ?_)
  refine x_pI ke ?_
  obtain ⟨M35, h35⟩ : ∃ M35, M35 = mI (mI (mI M12 146 m y3.2) (e + 4) m y7.2) e 7 (x.2 2 + 1) := ⟨_, rfl⟩
  rw [← h35]
  have o : ∀ i k, M35.2.1 i k = if i = e ∧ k = 7 then x.2 2 + 1 else if i = e + 4 ∧ k = m then y7.2 else if i = 146 ∧ k = m then y3.2 else M12.2.1 i k := fun i k => by
    rw [h35]
    simp only [mI_if]
  have F35 : hc_Fr e M12 M35 := by
    rw [h35]
    exact hc_tr (hc_up (by unfold hc_w; omega)) (hc_tr (hc_up (by unfold hc_w; omega)) (hc_up (by unfold hc_w; omega)))
  clear h35
  rw [hmm]
  have oe : ∀ k, k ≠ 7 → M35.2.1 e k = M12.2.1 e k := fun k hk => by
    rw [o, if_neg (by omega), if_neg (by omega), if_neg (by omega)]
  have of : ∀ i k, i ≠ e ∧ i ≠ e + 4 ∧ i ≠ 146 → M35.2.1 i k = M12.2.1 i k := fun i k hi => by
    rw [o, if_neg (by omega), if_neg (by omega), if_neg (by omega)]
  have oa : ∀ i k, i ≠ e → k ≠ m → M35.2.1 i k = M12.2.1 i k := fun i k hi hk => by
    rw [o, if_neg (by omega), if_neg (by omega), if_neg (by omega)]
  obtain ⟨σ, hσ⟩ : ∃ σ, σ = hs_set (hs_new (hs_set (hs_set (hs_set x.2 (38 + 2 * m) y3.2) (39 + 2 * m) y7.2) (52 + m) 0) m) 2 (x.2 2 + 1) := ⟨_, rfl⟩
  rw [← hσ]
  have s : ∀ j, σ j = if j = 2 then x.2 2 + 1 else if 59 + 14 * m ≤ j ∧ j < 73 + 14 * m then (if (j - (59 + 14 * m)) % 2 = 0 then -1 else 0) else if j = 52 + m then 0 else if j = 39 + 2 * m then y7.2 else if j = 38 + 2 * m then y3.2 else x.2 j := fun j => by
    rw [hσ]
    rfl
  have sk : ∀ j, j ≠ 2 → j ≠ 38 + 2 * m → j ≠ 39 + 2 * m → j ≠ 52 + m → j < 59 + 14 * m ∨ 73 + 14 * m ≤ j → σ j = x.2 j := fun j h1 h2 h3 h4 h5 => by
    rw [s, if_neg (by omega), if_neg (by omega), if_neg (by omega), if_neg (by omega), if_neg (by omega)]
  have s2 : σ 2 = x.2 2 + 1 := by rw [s, if_pos rfl]
  clear hσ
  have sk' : ∀ j, j ≠ 2 → j < 38 → σ j = x.2 j := fun j h1 h2 => sk j h1 (by omega) (by omega) (by omega) (by omega)
  refine Ok_s ⟨hc_tr F12 F35, ⟨z_Cx C (fun i => q_k_of F35.1.1.1) F35.1.2 (fun i k h1 h2 => of i k (by omega)), by rw [of 131 7 (by omega)]; exact f0⟩, hc_Lm L0 F35, ⟨⟨⟨⟨?_, ?_⟩, ?_⟩, ⟨?_, ?_⟩, fun t ht => ?_, fun h hh => ?_⟩, ⟨⟨?_, ?_⟩, ?_⟩, fun h hh => ?_, fun t ht => ?_⟩, ⟨?_, ?_, ?_⟩, fun h h1 h2 => ?_, fun t ht => ?_⟩
  all_goals try dsimp only at *
  · rw [oe 6 (by decide), sk' 1 (by decide) (by decide)]
    exact E1.1.1
  · rw [o, if_pos ⟨rfl, rfl⟩, s2]
  · rw [oe 8 (by decide), sk' 3 (by decide) (by decide)]
    exact E1.2
  · rw [oe 9 (by decide), sk' 7 (by decide) (by decide)]
    exact E2.1
  · rw [oe 10 (by decide), sk' 6 (by decide) (by decide)]
    exact E2.2
  · rw [sk' 1 (by decide) (by decide)] at ht
    rw [of (e + 1) t (by omega), of (e + 2) t (by omega), of (e + 3) t (by omega), sk' (10 + 4 * t) (by omega) (by omega), sk' (11 + 4 * t) (by omega) (by omega), sk' (12 + 4 * t) (by omega) (by omega)]
    exact E3 t ht
  · rw [s2, inc] at hh
    rw [of (e + 5) h (by omega)]
    by_cases eh : h = m
    · subst eh
      refine ⟨?_, ?_⟩
      · rw [o, if_neg (by omega), if_pos ⟨rfl, rfl⟩, s, if_neg (by omega), if_neg (by omega), if_neg (by omega), if_pos rfl]
      · rw [s, if_neg (by omega), if_neg (by omega), if_pos rfl]
        exact (X2 h (by omega) (by omega)).1
    · rw [oa (e + 4) h (by omega) eh, sk (39 + 2 * h) (by omega) (by omega) (by omega) (by omega) (by omega), sk (52 + h) (by omega) (by omega) (by omega) (by omega) (by omega)]
      exact E4 h (by omega)
  · rw [of 143 4 (by omega), sk' 8 (by decide) (by decide)]
    exact S1.1.1
  · rw [of 143 5 (by omega), sk' 4 (by decide) (by decide)]
    exact S1.1.2
  · rw [of 143 6 (by omega), sk' 5 (by decide) (by decide)]
    exact S1.2
  · rw [s2, inc] at hh
    by_cases eh : h = m
    · subst eh
      refine ⟨?_, fun t ht => Or.inr ⟨?_, ?_, ?_⟩⟩
      · rw [o, if_neg (by omega), if_neg (by omega), if_pos ⟨rfl, rfl⟩, s, if_neg (by omega), if_neg (by omega), if_neg (by omega), if_neg (by omega), if_pos rfl]
      · rw [of 145 _ (by omega)]
        exact (X2 h (by omega) (by omega)).2 t ht
      · rw [s, if_neg (by omega), if_pos (by omega), if_pos (by omega)]
      · rw [s, if_neg (by omega), if_pos (by omega), if_neg (by omega)]
    · rw [oa 146 h (by omega) eh, sk (38 + 2 * h) (by omega) (by omega) (by omega) (by omega) (by omega)]
      exact ⟨(S2 h (by omega)).1, fun t ht => k_cm ((S2 h (by omega)).2 t ht) (of 144 _ (by omega)) (of 145 _ (by omega)) (sk _ (by omega) (by omega) (by omega) (by omega) (by omega)) (sk _ (by omega) (by omega) (by omega) (by omega) (by omega))⟩
  · rw [sk' 1 (by decide) (by decide)] at ht
    rw [of 147 t (by omega), sk' (13 + 4 * t) (by omega) (by omega)]
    exact S3 t ht
  · rw [sk' 1 (by decide) (by decide)]
    exact X1.1
  · rw [s2, inc]
    omega
  · rw [sk' 3 (by decide) (by decide)]
    exact X1.2.2
  · rw [s2, inc] at h1
    rw [of (e + 5) h (by omega)]
    refine ⟨(X2 h (by omega) h2).1, fun t ht => ?_⟩
    rw [of 145 _ (by omega)]
    exact (X2 h (by omega) h2).2 t ht
  · rw [of 147 t (by omega)]
    exact X3 t ht
/-- what one cell more, of the House's own or the State's, keeps -/
theorem hc_R1 {T M : gM} {e i k : Nat} {v : Int32} {p : Nat} {σ σ' : Nat → Int32} (R : hc_R T M e (p, σ)) (hi : i = e ∨ i = 143) (hw : i = e → k = 9 ∨ k = 10) (hw2 : i = 143 → k = 6)
    (h9 : (mI M i k v).2.1 e 9 = σ' 7) (h10 : (mI M i k v).2.1 e 10 = σ' 6) (h6 : (mI M i k v).2.1 143 6 = σ' 5) (sk : ∀ j, j ≠ 0 → j ≠ 5 → j ≠ 6 → j ≠ 7 → σ' j = σ j) : hc_Fr e M (mI M i k v) ∧ hc_R T (mI M i k v) e (p, σ') := by
  obtain ⟨⟨C, f0⟩, L, ⟨⟨E1, E2, E3, E4⟩, S1, S2, S3⟩, X1, X2, X3⟩ := R
  dsimp only at C E1 E2 E3 E4 S1 S2 S3 X1 X2 X3
  have he := L.2.2
  have F : hc_Fr e M (mI M i k v) := hc_up (by unfold hc_w; omega)
  have of : ∀ a b, (a ≠ e ∨ b < 9) → (a ≠ 143 ∨ b < 6) → (mI M i k v).2.1 a b = M.2.1 a b := fun a b h1 h2 => mI_ne (by omega)
  generalize mI M i k v = M' at F of h9 h10 h6 ⊢
  refine ⟨F, ⟨z_Cx C (fun i => q_k_of F.1.1.1) F.1.2 (fun a b h1 h2 => of a b (by omega) (by omega)), by rw [of 131 7 (by omega) (by omega)]; exact f0⟩, hc_Lm L F, ⟨⟨⟨⟨?_, ?_⟩, ?_⟩, ⟨?_, ?_⟩, fun t ht => ?_, fun h hh => ?_⟩, ⟨⟨?_, ?_⟩, ?_⟩, fun h hh => ?_, fun t ht => ?_⟩, ⟨?_, ?_, ?_⟩, fun h h1 h2 => ?_, fun t ht => ?_⟩
  all_goals try dsimp only at *
  · rw [of e 6 (by omega) (by omega), sk 1 (by omega) (by omega) (by omega) (by omega)]
    exact E1.1.1
  · rw [of e 7 (by omega) (by omega), sk 2 (by omega) (by omega) (by omega) (by omega)]
    exact E1.1.2
  · rw [of e 8 (by omega) (by omega), sk 3 (by omega) (by omega) (by omega) (by omega)]
    exact E1.2
  · exact h9
  · exact h10
  · rw [sk 1 (by omega) (by omega) (by omega) (by omega)] at ht
    rw [of (e + 1) t (by omega) (by omega), of (e + 2) t (by omega) (by omega), of (e + 3) t (by omega) (by omega), sk (10 + 4 * t) (by omega) (by omega) (by omega) (by omega), sk (11 + 4 * t) (by omega) (by omega) (by omega) (by omega), sk (12 + 4 * t) (by omega) (by omega) (by omega) (by omega)]
    exact E3 t ht
  · rw [sk 2 (by omega) (by omega) (by omega) (by omega)] at hh
    rw [of (e + 4) h (by omega) (by omega), of (e + 5) h (by omega) (by omega), sk (39 + 2 * h) (by omega) (by omega) (by omega) (by omega), sk (52 + h) (by omega) (by omega) (by omega) (by omega)]
    exact E4 h hh
  · rw [of 143 4 (by omega) (by omega), sk 8 (by omega) (by omega) (by omega) (by omega)]
    exact S1.1.1
  · rw [of 143 5 (by omega) (by omega), sk 4 (by omega) (by omega) (by omega) (by omega)]
    exact S1.1.2
  · exact h6
  · rw [sk 2 (by omega) (by omega) (by omega) (by omega)] at hh
    rw [of 146 h (by omega) (by omega), sk (38 + 2 * h) (by omega) (by omega) (by omega) (by omega)]
    exact ⟨(S2 h hh).1, fun t ht => k_cm ((S2 h hh).2 t ht) (of 144 _ (by omega) (by omega)) (of 145 _ (by omega) (by omega)) (sk _ (by omega) (by omega) (by omega) (by omega)) (sk _ (by omega) (by omega) (by omega) (by omega))⟩
  · rw [sk 1 (by omega) (by omega) (by omega) (by omega)] at ht
    rw [of 147 t (by omega) (by omega), sk (13 + 4 * t) (by omega) (by omega) (by omega) (by omega)]
    exact S3 t ht
  · rw [sk 1 (by omega) (by omega) (by omega) (by omega)]
    exact X1.1
  · rw [sk 2 (by omega) (by omega) (by omega) (by omega)]
    exact X1.2.1
  · rw [sk 3 (by omega) (by omega) (by omega) (by omega)]
    exact X1.2.2
  · rw [sk 2 (by omega) (by omega) (by omega) (by omega)] at h1
    rw [of (e + 5) h (by omega) (by omega)]
    refine ⟨(X2 h h1 h2).1, fun t ht => ?_⟩
    rw [of 145 _ (by omega) (by omega)]
    exact (X2 h h1 h2).2 t ht
  · rw [of 147 t (by omega) (by omega)]
    exact X3 t ht
-- 7s.8d.hcls3
/-! numbers of one clause: songs, hates, ASKS -/
theorem hs_se {σ : Nat → Int32} {k : Nat} {v : Int32} : hs_set σ k v k = v := if_pos rfl
theorem hs_sn {σ : Nat → Int32} {k j : Nat} {v : Int32} (h : j ≠ k) : hs_set σ k v j = σ j := if_neg h
theorem hc_Yw {T M : gM} {e er i k : Nat} {v : Int32} (Y : hc_Y T M e er) (hi : i = e ∨ i = 143) : hc_Fr e M (mI M i k v) ∧ hc_Y T (mI M i k v) e er := by
  have he := Y.2.2.2
  have F : hc_Fr e M (mI M i k v) := hc_up (by unfold hc_w; omega)
  have of : ∀ a b, a < 143 → (mI M i k v).2.1 a b = M.2.1 a b := fun a b h => mI_ne (by omega)
  obtain ⟨⟨⟨p, C⟩, y1, y2⟩, L⟩ := Y
  exact ⟨F, ⟨⟨p, z_Cx C (fun i => q_k_of F.1.1.1) F.1.2 (fun a b h1 h2 => of a b (by omega))⟩, by rw [of 131 7 (by decide)]; exact y1, y2⟩, hc_Lm L F⟩
theorem C_bitOf {v : Int32} {M : gM} : F_X2_bitOf v M = some (if 0 ≤ v then hs_bit v else 0) := by
  delta F_X2_bitOf F_X2_bitOf_b0
  by_cases h : 0 ≤ v
  · rw [if_pos h, if_pos h]
    rfl
  · rw [if_neg h, if_neg h]
theorem hc_of {T M : gM} {e : Nat} {x : hS} (R : hc_R T M e x) : (((g_k M 136 = (2, 0) ∧ M.2.2.2 136 0 = some 131) ∧ M.2.2.2 136 1 = some e ∧ M.2.2.2 136 2 = some 143) ∧ g_k M e = (1, 0) ∧ g_k M 131 = (9, 0)) ∧ ((M.2.1 e 6 = x.2 1 ∧ M.2.1 e 7 = x.2 2) ∧ M.2.1 e 8 = x.2 3) ∧ M.2.1 e 9 = x.2 7 ∧ M.2.1 e 10 = x.2 6 := ⟨⟨R.2.1.1, R.2.1.2.1.1.1, z_k131 R.1.1⟩, R.2.2.1.1.1, R.2.2.1.1.2.1⟩
theorem hc_Yof {T M : gM} {e er : Nat} (Y : hc_Y T M e er) : ((g_k M 136 = (2, 0) ∧ M.2.2.2 136 0 = some 131) ∧ M.2.2.2 136 1 = some e ∧ M.2.2.2 136 2 = some 143) ∧ g_k M e = (1, 0) ∧ g_k M 131 = (9, 0) ∧ g_k M 143 = (8, 0) := ⟨Y.2.1, Y.2.2.1.1.1, hc_Yk Y, Y.2.2.1.2.1.1⟩
theorem C_hate {T M : gM} {e : Nat} {x : hS} (R : hc_R T M e x) : Ok ((gR 2 M (some 136) 1).bind fun v5 => (gI 1 M v5 10).bind fun v6 => (gR 2 M (some 136) 0).bind fun v7 => (gR 2 M (some 136) 1).bind fun v8 => (gI 1 M v8 7).bind fun v9 => (gO 9 M v7).bind fun i10 => (F_X9_number (some i10) (0 : Int32) (v9 - (1 : Int32)) M).bind fun (v11, M12) => (F_X2_bitOf v11 M12).bind fun v13 => (pI 1 M12 v5 10 (v6 ||| v13)).bind fun M14 => some M14) (fun M' => hc_Fr e M M' ∧ hc_P T M' e (hs_hate T x)) := by
  obtain ⟨⟨⟨⟨k136, r0⟩, r1, r2⟩, ke, k9⟩, ⟨⟨e6, e7⟩, e8⟩, e9, e10⟩ := hc_of R
  have X1 := R.2.2.2.1
  refine x_gR k136 r1 (x_gI ke e10 ?_)
  refine x_gR k136 r0 (x_gR k136 r1 (x_gI ke e7 (x_gO k9 ?_)))
  have hh : (x.2 2 - (1 : Int32)).toInt = (x.2 2).toInt - 1 := i_subc rfl (by omega) (by omega)
  unfold hs_hate
  refine x_num R hc_rf (l := 0) rfl hh (by decide) (by omega) (fun er M4 hit F4 Y => ?_) (fun y M4 hit F4 R4 v3 => ?_)
  · rw [hit, hs_bl]
    refine x_eq C_bitOf ?_
    refine x_pI (hc_Yof Y).2.1 ?_
    obtain ⟨a, b⟩ := hc_Yw (k := 10) (v := (x.2 6 ||| (if (0 : Int32) ≤ -1 then hs_bit (-1) else 0))) Y (Or.inl rfl)
    exact Ok_s ⟨hc_tr F4 a, b⟩
  · rw [hit, hs_br]
    refine x_eq C_bitOf ?_
    rw [if_pos (show (0 : Int32) ≤ y.2 from Int32.le_iff_toInt_le.mpr v3.1)]
    refine x_pI (hc_of R4).1.2.1 ?_
    obtain ⟨a, b⟩ := hc_R1 (i := e) (k := 10) (v := x.2 6 ||| hs_bit y.2) (σ' := hs_set x.2 6 (x.2 6 ||| hs_bit y.2)) R4 (Or.inl rfl) (fun _ => Or.inr rfl) (fun h => by have := R.2.1.2.2; omega) (by rw [mI_ne (Or.inr (by decide)), (hc_of R4).2.2.1, hs_sn (by decide)]) (by rw [y_mI1, hs_se]) (by rw [mI_ne (Or.inl (by have := R.2.1.2.2; omega)), R4.2.2.1.2.1.2, hs_sn (by decide)]) (fun j _ _ h6 _ => hs_sn h6)
    exact Ok_s ⟨hc_tr F4 a, b⟩
theorem C_song {T M : gM} {e : Nat} {x : hS} (R : hc_R T M e x) : Ok ((gR 2 M (some 136) 1).bind fun v15 => (gI 1 M v15 9).bind fun v16 => (gR 2 M (some 136) 0).bind fun v17 => (gR 2 M (some 136) 1).bind fun v18 => (gI 1 M v18 6).bind fun v19 => (gO 9 M v17).bind fun i20 => (F_X9_number (some i20) (0 : Int32) (v19 - (1 : Int32)) M).bind fun (v21, M22) => (F_X2_bitOf v21 M22).bind fun v23 => (pI 1 M22 v15 9 (v16 ||| v23)).bind fun M24 => some M24) (fun M' => hc_Fr e M M' ∧ hc_P T M' e (hs_song T x)) := by
  obtain ⟨⟨⟨⟨k136, r0⟩, r1, r2⟩, ke, k9⟩, ⟨⟨e6, e7⟩, e8⟩, e9, e10⟩ := hc_of R
  have X1 := R.2.2.2.1
  refine x_gR k136 r1 (x_gI ke e9 ?_)
  refine x_gR k136 r0 (x_gR k136 r1 (x_gI ke e6 (x_gO k9 ?_)))
  have hh : (x.2 1 - (1 : Int32)).toInt = (x.2 1).toInt - 1 := i_subc rfl (by omega) (by omega)
  unfold hs_song
  refine x_num R hc_rf (l := 0) rfl hh (by decide) (by omega) (fun er M4 hit F4 Y => ?_) (fun y M4 hit F4 R4 v3 => ?_)
  · rw [hit, hs_bl]
    refine x_eq C_bitOf ?_
    refine x_pI (hc_Yof Y).2.1 ?_
    obtain ⟨a, b⟩ := hc_Yw (k := 9) (v := (x.2 7 ||| (if (0 : Int32) ≤ -1 then hs_bit (-1) else 0))) Y (Or.inl rfl)
    exact Ok_s ⟨hc_tr F4 a, b⟩
  · rw [hit, hs_br]
    refine x_eq C_bitOf ?_
    rw [if_pos (show (0 : Int32) ≤ y.2 from Int32.le_iff_toInt_le.mpr v3.1)]
    refine x_pI (hc_of R4).1.2.1 ?_
    obtain ⟨a, b⟩ := hc_R1 (i := e) (k := 9) (v := x.2 7 ||| hs_bit y.2) (σ' := hs_set x.2 7 (x.2 7 ||| hs_bit y.2)) R4 (Or.inl rfl) (fun _ => Or.inl rfl) (fun h => by have := R.2.1.2.2; omega) (by rw [y_mI1, hs_se]) (by rw [mI_ne (Or.inr (by decide)), (hc_of R4).2.2.2, hs_sn (by decide)]) (by rw [mI_ne (Or.inl (by have := R.2.1.2.2; omega)), R4.2.2.1.2.1.2, hs_sn (by decide)]) (fun j _ _ _ h7 => hs_sn h7)
    exact Ok_s ⟨hc_tr F4 a, b⟩
theorem C_asks {T M : gM} {e : Nat} {x : hS} (R : hc_R T M e x) : Ok ((gR 2 M (some 136) 2).bind fun v25 => (gR 2 M (some 136) 0).bind fun v26 => (gO 9 M v26).bind fun i27 => (F_X9_number (some i27) (1 : Int32) (20 : Int32) M).bind fun (v28, M29) => (pI 8 M29 v25 6 v28).bind fun M30 => some M30) (fun M' => hc_Fr e M M' ∧ hc_P T M' e (hs_house T x)) := by
  obtain ⟨⟨⟨⟨k136, r0⟩, r1, r2⟩, ke, k9⟩, ⟨⟨e6, e7⟩, e8⟩, e9, e10⟩ := hc_of R
  refine x_gR k136 r2 (x_gR k136 r0 (x_gO k9 ?_))
  unfold hs_house
  refine x_num R hc_rf (l := 1) (h := 20) rfl rfl (by decide) (by decide) (fun er M4 hit F4 Y => ?_) (fun y M4 hit F4 R4 v3 => ?_)
  · rw [hit, hs_bl]
    refine x_pI (hc_Yof Y).2.2.2 ?_
    obtain ⟨a, b⟩ := hc_Yw (k := 6) (v := (-1 : Int32)) Y (Or.inr rfl)
    exact Ok_s ⟨hc_tr F4 a, b⟩
  · rw [hit, hs_br]
    refine x_pI R4.2.1.2.1.2.1.1 ?_
    have he := R.2.1.2.2
    obtain ⟨a, b⟩ := hc_R1 (i := 143) (k := 6) (v := y.2) (σ' := hs_set (hs_set x.2 5 y.2) 0 1) R4 (Or.inr rfl) (fun h => by omega) (fun _ => rfl) (by rw [mI_ne (Or.inl (by omega)), (hc_of R4).2.2.1, hs_sn (by decide), hs_sn (by decide)]) (by rw [mI_ne (Or.inl (by omega)), (hc_of R4).2.2.2, hs_sn (by decide), hs_sn (by decide)]) (by rw [y_mI1, hs_sn (by decide), hs_se]) (fun j h0 h5 _ _ => by rw [hs_sn h0, hs_sn h5])
    exact Ok_s ⟨hc_tr F4 a, b⟩
/-- what an HEIR knows of a THING, set -/
theorem C_learn {M : gM} {s h t : Nat} {l1 l2 a v : Int32} (L : k_LS M s) (h1 : l1.toInt = (h : Int)) (h2 : l2.toInt = (t : Int)) (hh : h < 7) (ht : t < 7) : F_X8_learn (some s) l1 l2 a v M = some (mI (mI M (s + 1) (7 * h + t) a) (s + 2) (7 * h + t) v) := by
  obtain ⟨⟨k, ⟨k1, k2⟩, k3, k4⟩, ⟨r0, r1⟩, r2, r3⟩ := L
  have a1 := i_mulR (x := l1) (c := (7 : Int32)) (n := 7) rfl (by omega) (by omega)
  have a2 := i_add (x := l1 * (7 : Int32)) (y := l2) (by omega) (by omega)
  have e : (l1 * (7 : Int32) + l2).toInt = ((7 * h + t : Nat) : Int) := by omega
  delta F_X8_learn F_X8_learn_b0
  rw [t_gR k r0, Option.bind_some, t_sI k1 (by omega) (by omega), Option.bind_some, i_cl e]
  have k' : g_k (mI M (s + 1) (7 * h + t) a) s = (8, 0) := k
  have r' : (mI M (s + 1) (7 * h + t) a).2.2.2 s 1 = some (s + 2) := r1
  have k2' : g_k (mI M (s + 1) (7 * h + t) a) (s + 2) = (20, 49) := k2
  rw [t_gR k' r', Option.bind_some, t_sI k2' (by omega) (by omega), Option.bind_some, i_cl e]
theorem C_readKnows {T M : gM} {e : Nat} {x : hS} (R : hc_R T M e x) : Ok (F_X2_readKnows (some 136) M) (fun M' => hc_Fr e M M' ∧ hc_P T M' e (hs_know T x)) := by
  have X1 := R.2.2.2.1
  have hh1 : (x.2 1 - (1 : Int32)).toInt = (x.2 1).toInt - 1 := i_subc rfl (by omega) (by omega)
  have hh2 : (x.2 2 - (1 : Int32)).toInt = (x.2 2).toInt - 1 := i_subc rfl (by omega) (by omega)
  have z0 : (0 : Int32).toInt = 0 := rfl
  delta F_X2_readKnows F_X2_readKnows_b0
  unfold hs_know
  refine x_gR R.2.1.1.1.1 R.2.1.1.1.2 (x_gR R.2.1.1.1.1 R.2.1.1.2.1 (x_gI (hc_of R).1.2.1 (hc_of R).2.1.1.2 (x_gO (z_k131 R.1.1) ?_)))
  refine x_num R hc_rf (l := 0) rfl hh2 (by decide) (by omega) (fun er M4 hit F4 Y => ?_) (fun y5 M6 hit F6 R6 v5 => ?_)
  · rw [hit, hs_bl]
    refine x_gR (hc_Yof Y).1.1.1 (hc_Yof Y).1.1.2 (x_gR (hc_Yof Y).1.1.1 (hc_Yof Y).1.2.1 (x_gI (hc_Yof Y).2.1 rfl (x_gO (hc_Yk Y) (x_numF Y ?_))))
    refine x_tx Y (x_numF Y ?_)
    refine x_tx Y (x_numF Y ?_)
    refine x_tx Y (x_faultF Y ?_)
    exact Ok_e (by decide) (Ok_s ⟨F4, Y⟩)
  rw [hit, hs_br]
  refine x_gR R6.2.1.1.1.1 R6.2.1.1.1.2 (x_gR R6.2.1.1.1.1 R6.2.1.1.2.1 (x_gI (hc_of R6).1.2.1 (hc_of R6).2.1.1.1 (x_gO (z_k131 R6.1.1) ?_)))
  refine x_num R6 F6 (l := 0) rfl hh1 (by decide) (by omega) (fun er M8 hit F8 Y => ?_) (fun y11 M12 hit F12 R12 v11 => ?_)
  · dsimp only at hit ⊢
    rw [hit, hs_bl]
    refine x_tx Y (x_numF Y ?_)
    refine x_tx Y (x_numF Y ?_)
    refine x_tx Y (x_faultF Y ?_)
    exact Ok_e (by decide) (Ok_s ⟨F8, Y⟩)
  dsimp only at hit ⊢
  rw [hit, hs_br]
  refine x_txR R12 ?_
  refine x_num R12 F12 (l := 0) (h := 9) rfl rfl (by decide) (by decide) (fun er M8 hit F8 Y => ?_) (fun y15 M16 hit F16 R16 v15 => ?_)
  · dsimp only at hit ⊢
    rw [hit, hs_bl]
    refine x_tx Y (x_numF Y ?_)
    refine x_tx Y (x_faultF Y ?_)
    exact Ok_e (by decide) (Ok_s ⟨F8, Y⟩)
  dsimp only at hit ⊢
  rw [hit, hs_br]
  refine x_txR R16 ?_
  refine x_num R16 F16 (l := 1) (h := 99) rfl rfl (by decide) (by decide) (fun er M8 hit F8 Y => ?_) (fun y19 M20 hit F20 R20 v19 => ?_)
  · dsimp only at hit ⊢
    rw [hit, hs_bl]
    refine x_tx Y (x_faultF Y ?_)
    exact Ok_e (by decide) (Ok_s ⟨F8, Y⟩)
  dsimp only at hit v5 v11 ⊢
  rw [hit, hs_br]
  refine x_txR R20 ?_
  obtain ⟨⟨C, f0⟩, L, ⟨⟨E1, E2, E3, E4⟩, S1, S2, S3⟩, X1, X2, X3⟩ := R20
  dsimp only at C E1 E2 E3 E4 S1 S2 S3 X1 X2 X3
  refine x_fault0 (z_k131 C) f0 ?_
  refine Ok_t rfl ?_
  refine Ok_e (fun c => by have := i_lt c; omega) ?_
  refine Ok_e (fun c => by have := i_lt c; omega) ?_
  obtain ⟨h, eh⟩ : ∃ h : Nat, y5.2.toInt = (h : Int) := ⟨y5.2.toInt.toNat, by omega⟩
  obtain ⟨t, et⟩ : ∃ t : Nat, y11.2.toInt = (t : Int) := ⟨y11.2.toInt.toNat, by omega⟩
  have he := L.2.2
  refine x_gR L.1.1.1 L.1.2.2 (x_gO L.2.1.2.1.1 ?_)
  refine x_eq (C_learn (s := 143) L.2.1.2 eh et (by omega) (by omega)) ?_
  rw [i_cl eh, i_cl et]
  obtain ⟨M35, h35⟩ : ∃ M35, M35 = mI (mI M20 144 (7 * h + t) y15.2) 145 (7 * h + t) y19.2 := ⟨_, rfl⟩
  show Ok (some (mI (mI M20 144 (7 * h + t) y15.2) 145 (7 * h + t) y19.2)) _
  rw [← h35]
  have o : ∀ i k, M35.2.1 i k = if i = 145 ∧ k = 7 * h + t then y19.2 else if i = 144 ∧ k = 7 * h + t then y15.2 else M20.2.1 i k := fun i k => by
    rw [h35]
    simp only [mI_if]
  have F35 : hc_Fr e M20 M35 := by
    rw [h35]
    exact hc_tr (hc_up (by unfold hc_w; omega)) (hc_up (by unfold hc_w; omega))
  clear h35
  have of : ∀ i k, (i ≠ 144 ∧ i ≠ 145) ∨ k ≠ 7 * h + t → M35.2.1 i k = M20.2.1 i k := fun i k hi => by
    rw [o, if_neg (by omega), if_neg (by omega)]
  obtain ⟨σ, hσ⟩ : ∃ σ, σ = hs_set (hs_set x.2 (59 + 14 * h + 2 * t) y15.2) (60 + 14 * h + 2 * t) y19.2 := ⟨_, rfl⟩
  rw [← hσ]
  have s : ∀ j, σ j = if j = 60 + 14 * h + 2 * t then y19.2 else if j = 59 + 14 * h + 2 * t then y15.2 else x.2 j := fun j => by
    rw [hσ]
    rfl
  have sk : ∀ j, j ≠ 60 + 14 * h + 2 * t → j ≠ 59 + 14 * h + 2 * t → σ j = x.2 j := fun j h1 h2 => by
    rw [s, if_neg h1, if_neg h2]
  clear hσ
  have sk' : ∀ j, j < 59 → σ j = x.2 j := fun j hj => sk j (by omega) (by omega)
  refine Ok_s ⟨hc_tr F20 F35, ⟨z_Cx C (fun i => q_k_of F35.1.1.1) F35.1.2 (fun i k h1 h2 => of i k (by omega)), by rw [of 131 7 (by omega)]; exact f0⟩, hc_Lm L F35, ⟨⟨⟨⟨?_, ?_⟩, ?_⟩, ⟨?_, ?_⟩, fun tt ht => ?_, fun ha hh => ?_⟩, ⟨⟨?_, ?_⟩, ?_⟩, fun ha hh => ?_, fun tt ht => ?_⟩, ⟨?_, ?_, ?_⟩, fun ha h1 h2 => ?_, fun tt ht => ?_⟩
  all_goals try dsimp only at *
  · rw [of e 6 (by omega), sk' 1 (by decide)]
    exact E1.1.1
  · rw [of e 7 (by omega), sk' 2 (by decide)]
    exact E1.1.2
  · rw [of e 8 (by omega), sk' 3 (by decide)]
    exact E1.2
  · rw [of e 9 (by omega), sk' 7 (by decide)]
    exact E2.1
  · rw [of e 10 (by omega), sk' 6 (by decide)]
    exact E2.2
  · rw [sk' 1 (by decide)] at ht
    rw [of (e + 1) _ (by omega), of (e + 2) _ (by omega), of (e + 3) _ (by omega), sk' _ (by omega), sk' _ (by omega), sk' _ (by omega)]
    exact E3 _ ht
  · rw [sk' 2 (by decide)] at hh
    rw [of (e + 4) _ (by omega), of (e + 5) _ (by omega), sk' _ (by omega), sk' _ (by omega)]
    exact E4 _ hh
  · rw [of 143 4 (by omega), sk' 8 (by decide)]
    exact S1.1.1
  · rw [of 143 5 (by omega), sk' 4 (by decide)]
    exact S1.1.2
  · rw [of 143 6 (by omega), sk' 5 (by decide)]
    exact S1.2
  · rw [sk' 2 (by decide)] at hh
    rw [of 146 _ (by omega), sk' _ (by omega)]
    refine ⟨(S2 ha hh).1, fun tb htb => ?_⟩
    by_cases eht : ha = h ∧ tb = t
    · obtain ⟨rfl, rfl⟩ := eht
      refine Or.inl ⟨⟨?_, ?_⟩, ?_, ?_⟩
      · rw [o, if_pos ⟨rfl, rfl⟩]
        omega
      · rw [s, if_neg (by omega), if_pos rfl]
        omega
      · rw [o, if_neg (by omega), if_pos ⟨rfl, rfl⟩, s, if_neg (by omega), if_pos rfl]
      · rw [o, if_pos ⟨rfl, rfl⟩, s, if_pos rfl]
    · exact k_cm ((S2 ha hh).2 tb htb) (of 144 _ (by omega)) (of 145 _ (by omega)) (sk _ (by omega) (by omega)) (sk _ (by omega) (by omega))
  · rw [sk' 1 (by decide)] at ht
    rw [of 147 _ (by omega), sk' _ (by omega)]
    exact S3 _ ht
  · rw [sk' 1 (by decide)]
    exact X1.1
  · rw [sk' 2 (by decide)]
    exact X1.2.1
  · rw [sk' 3 (by decide)]
    exact X1.2.2
  · rw [sk' 2 (by decide)] at h1
    rw [of (e + 5) _ (by omega)]
    refine ⟨(X2 ha h1 h2).1, fun tb htb => ?_⟩
    rw [of 145 _ (by omega)]
    exact (X2 ha h1 h2).2 tb htb
  · rw [of 147 _ (by omega)]
    exact X3 _ ht
-- 7t.8e.hcls4
/-! cousins; a clause; the whole text, by the class -/
theorem b_ff {b : Bool} (h : ¬ b = true) : b = false := by
  cases b
  · rfl
  · exact absurd rfl h
/-- a FAULT at a place, where none was -/
theorem hc_bl {T M M0 : gM} {e q d : Nat} {l1 l2 : Int32} {x : hS} (R : hc_R T M e x) (F : hc_Fr e M0 M) (h1 : l1.toInt = (q : Int)) (hq : q ≤ 400) (h2 : l2.toInt = (d : Int)) (hd : d ≤ 7) : hc_Fr e M0 (n_bl M l1 l2) ∧ hc_Y T (n_bl M l1 l2) e (1 + 8 * q + d) := by
  obtain ⟨c1, c2⟩ := n_bl_r (l1 := l1) (l2 := l2) R.1.1
  have f := hc_57 (e := e) (z_57b c2)
  exact ⟨hc_tr F f, ⟨⟨⟨_, c1⟩, n_bl_0 R.1.2 h1 hq h2 hd, by omega⟩, hc_Lm R.2.1 f⟩⟩
theorem C_readCousins {T M : gM} {e : Nat} {x : hS} (R : hc_R T M e x) (hn : (x.2 3).toInt < 10) : Ok (F_X2_readCousins (some 136) M) (fun M' => hc_Fr e M M' ∧ hc_P T M' e (hs_cous T x)) := by
  have X1 := R.2.2.2.1
  have hh2 : (x.2 2 - (1 : Int32)).toInt = (x.2 2).toInt - 1 := i_subc rfl (by omega) (by omega)
  have z0 : (0 : Int32).toInt = 0 := rfl
  delta F_X2_readCousins F_X2_readCousins_b0 F_X2_readCousins_b85
  unfold hs_cous
  refine x_gR R.2.1.1.1.1 R.2.1.1.1.2 (x_gR R.2.1.1.1.1 R.2.1.1.2.1 (x_gI (hc_of R).1.2.1 (hc_of R).2.1.1.2 (x_gO (z_k131 R.1.1) ?_)))
  refine x_num R hc_rf (l := 0) rfl hh2 (by decide) (by omega) (fun er M4 hit F4 Y => ?_) (fun y5 M6 hit F6 R6 v5 => ?_)
  · rw [hit, hs_bl]
    obtain ⟨p4, C4⟩ := Y.1.1
    refine x_tx Y ?_
    refine Ok_b (C_place C4) (fun v9 h9 => ?_)
    refine x_gR (hc_Yof Y).1.1.1 (hc_Yof Y).1.1.2 (x_gR (hc_Yof Y).1.1.1 (hc_Yof Y).1.2.1 (x_gI (hc_Yof Y).2.1 rfl (x_gO (hc_Yk Y) (x_numF Y ?_))))
    refine x_tx Y (x_faultF Y ?_)
    exact Ok_e (by decide) (Ok_s ⟨F4, Y⟩)
  rw [hit, hs_br]
  refine x_txR R6 ?_
  refine Ok_b (C_place R6.1.1) (fun v9 h9 => ?_)
  have hz := z_Cs R6.1.1
  refine x_gR R6.2.1.1.1.1 R6.2.1.1.1.2 (x_gR R6.2.1.1.1.1 R6.2.1.1.2.1 (x_gI (hc_of R6).1.2.1 (hc_of R6).2.1.1.2 (x_gO (z_k131 R6.1.1) ?_)))
  refine x_num R6 F6 (l := 0) rfl hh2 (by decide) (by omega) (fun er M8 hit F8 Y => ?_) (fun y14 M15 hit F15 R15 v14 => ?_)
  · dsimp only at hit ⊢
    rw [hit, hs_bl]
    refine x_tx Y (x_faultF Y ?_)
    exact Ok_e (by decide) (Ok_s ⟨F8, Y⟩)
  dsimp only at hit h9 v5 v14 hz ⊢
  rw [hit, hs_br]
  refine x_txR R15 ?_
  have R0 := R15
  obtain ⟨⟨C, f0⟩, L, ⟨⟨E1, E2, E3, E4⟩, S1, S2, S3⟩, X1, X2, X3⟩ := R15
  dsimp only at C E1 E2 E3 E4 S1 S2 S3 X1 X2 X3
  refine x_fault0 (z_k131 C) f0 ?_
  refine Ok_t rfl ?_
  refine Ok_e (fun c => by have := i_lt c; omega) ?_
  refine Ok_t (Int32.le_iff_toInt_le.mpr (by omega)) ?_
  obtain ⟨a, ea⟩ : ∃ a : Nat, y5.2.toInt = (a : Int) := ⟨y5.2.toInt.toNat, by omega⟩
  obtain ⟨b, eb⟩ : ∃ b : Nat, y14.2.toInt = (b : Int) := ⟨y14.2.toInt.toNat, by omega⟩
  rw [i_cl ea, i_cl eb]
  have he := L.2.2
  obtain ⟨⟨⟨k136, r0⟩, r1, r2⟩, ⟨⟨ke, kr⟩, LS⟩, _⟩ := L
  have L0 : hc_L M15 e := ⟨⟨⟨k136, r0⟩, r1, r2⟩, ⟨⟨ke, kr⟩, LS⟩, he⟩
  have a5 : M15.2.2.2 e 4 = some (e + 5) := (kr 4 (by decide)).2
  have b5 : g_k M15 (e + 5) = (20, 7) := (kr 4 (by decide)).1
  have c5a := (E4 a (by omega)).2
  have c5b := (E4 b (by omega)).2
  have bl := hc_bl (l1 := v9) (l2 := (1 : Int32)) (d := 1) R0 F15 h9 (by omega) rfl (by decide)
  by_cases cab : y5.2 = y14.2
  · rw [if_pos (Or.inl cab)]
    refine Ok_t cab ?_
    refine x_gR k136 r0 (x_gO (z_k131 C) ?_)
    refine x_eq (C_blame (z_k131 C)) ?_
    exact Ok_s bl
  have nab : a ≠ b := fun h => cab (Int32.toInt_inj.mp (by omega))
  refine Ok_e cab ?_
  refine x_gR k136 r1 (x_gR ke a5 (x_aI b5 ea (by omega) c5a ?_))
  refine x_eq (a := hs_is (x.2 (52 + a)) y14.2) rfl ?_
  by_cases cis : hs_is (x.2 (52 + a)) y14.2 = 1
  · rw [if_pos (Or.inr cis)]
    refine Ok_t cis ?_
    refine x_gR k136 r0 (x_gO (z_k131 C) ?_)
    refine x_eq (C_blame (z_k131 C)) ?_
    exact Ok_s bl
  rw [if_neg (show ¬ (y5.2 = y14.2 ∨ hs_is (x.2 (52 + a)) y14.2 = 1) from fun h => h.elim cab cis)]
  refine Ok_e cis ?_
  refine x_gR k136 r1 (x_gR ke a5 (x_aI b5 ea (by omega) c5a ?_))
  refine x_sI b5 ea (by omega) ?_
  refine x_gR k136 r1 (x_gR ke a5 (x_aI b5 eb (by omega) ((mI_ne (Or.inr (fun h => nab h.symm))).trans c5b) ?_))
  refine x_sI b5 eb (by omega) ?_
  refine x_gR k136 r1 (x_gI ke (((mI_ne (Or.inl (by omega))).trans (mI_ne (Or.inl (by omega)))).trans E1.2) ?_)
  refine x_pI ke ?_
  have inc : (x.2 3 + 1).toInt = (x.2 3).toInt + 1 := i_addc (n := 1) rfl (by omega) (by omega)
  show Ok (some (mI (mI (mI M15 (e + 5) a (x.2 (52 + a) ||| hs_bit y14.2)) (e + 5) b (x.2 (52 + b) ||| hs_bit y5.2)) e 8 (x.2 3 + 1))) _
  obtain ⟨M35, h35⟩ : ∃ M35, M35 = mI (mI (mI M15 (e + 5) a (x.2 (52 + a) ||| hs_bit y14.2)) (e + 5) b (x.2 (52 + b) ||| hs_bit y5.2)) e 8 (x.2 3 + 1) := ⟨_, rfl⟩
  rw [← h35]
  have o : ∀ i k, M35.2.1 i k = if i = e ∧ k = 8 then x.2 3 + 1 else if i = e + 5 ∧ k = b then x.2 (52 + b) ||| hs_bit y5.2 else if i = e + 5 ∧ k = a then x.2 (52 + a) ||| hs_bit y14.2 else M15.2.1 i k := fun i k => by
    rw [h35]
    simp only [mI_if]
  have F35 : hc_Fr e M15 M35 := by
    rw [h35]
    exact hc_tr (hc_up (by unfold hc_w; omega)) (hc_tr (hc_up (by unfold hc_w; omega)) (hc_up (by unfold hc_w; omega)))
  clear h35
  have oe : ∀ k, k ≠ 8 → M35.2.1 e k = M15.2.1 e k := fun k hk => by
    rw [o, if_neg (by omega), if_neg (by omega), if_neg (by omega)]
  have of : ∀ i k, i ≠ e ∧ i ≠ e + 5 → M35.2.1 i k = M15.2.1 i k := fun i k hi => by
    rw [o, if_neg (by omega), if_neg (by omega), if_neg (by omega)]
  have o5 : ∀ k, k ≠ a → k ≠ b → M35.2.1 (e + 5) k = M15.2.1 (e + 5) k := fun k h1 h2 => by
    rw [o, if_neg (by omega), if_neg (by omega), if_neg (by omega)]
  obtain ⟨σ, hσ⟩ : ∃ σ, σ = hs_set (hs_set (hs_set x.2 (52 + a) (x.2 (52 + a) ||| hs_bit y14.2)) (52 + b) (x.2 (52 + b) ||| hs_bit y5.2)) 3 (x.2 3 + 1) := ⟨_, rfl⟩
  rw [← hσ]
  have s : ∀ j, σ j = if j = 3 then x.2 3 + 1 else if j = 52 + b then x.2 (52 + b) ||| hs_bit y5.2 else if j = 52 + a then x.2 (52 + a) ||| hs_bit y14.2 else x.2 j := fun j => by
    rw [hσ]
    rfl
  have sk : ∀ j, j ≠ 3 → j ≠ 52 + a → j ≠ 52 + b → σ j = x.2 j := fun j h1 h2 h3 => by
    rw [s, if_neg h1, if_neg h3, if_neg h2]
  clear hσ
  have s3 : σ 3 = x.2 3 + 1 := by rw [s, if_pos rfl]
  have sk' : ∀ j, j ≠ 3 → j < 52 → σ j = x.2 j := fun j h hj => sk j h (by omega) (by omega)
  refine Ok_s ⟨hc_tr F15 F35, ⟨z_Cx C (fun i => q_k_of F35.1.1.1) F35.1.2 (fun i k h1 h2 => of i k (by omega)), by rw [of 131 7 (by omega)]; exact f0⟩, hc_Lm L0 F35, ⟨⟨⟨⟨?_, ?_⟩, ?_⟩, ⟨?_, ?_⟩, fun t ht => ?_, fun h hh => ?_⟩, ⟨⟨?_, ?_⟩, ?_⟩, fun h hh => ?_, fun t ht => ?_⟩, ⟨?_, ?_, ?_⟩, fun h h1 h2 => ?_, fun t ht => ?_⟩
  all_goals try dsimp only at *
  · rw [oe 6 (by decide), sk' 1 (by decide) (by decide)]
    exact E1.1.1
  · rw [oe 7 (by decide), sk' 2 (by decide) (by decide)]
    exact E1.1.2
  · rw [o, if_pos ⟨rfl, rfl⟩, s3]
  · rw [oe 9 (by decide), sk' 7 (by decide) (by decide)]
    exact E2.1
  · rw [oe 10 (by decide), sk' 6 (by decide) (by decide)]
    exact E2.2
  · rw [sk' 1 (by decide) (by decide)] at ht
    rw [of (e + 1) _ (by omega), of (e + 2) _ (by omega), of (e + 3) _ (by omega), sk' _ (by omega) (by omega), sk' _ (by omega) (by omega), sk' _ (by omega) (by omega)]
    exact E3 _ ht
  · rw [sk' 2 (by decide) (by decide)] at hh
    rw [of (e + 4) _ (by omega), sk' (39 + 2 * h) (by omega) (by omega)]
    refine ⟨(E4 h hh).1, ?_⟩
    by_cases h1 : h = a
    · subst h1
      rw [o, if_neg (by omega), if_neg (by omega), if_pos ⟨rfl, rfl⟩, s, if_neg (by omega), if_neg (by omega), if_pos rfl]
    · by_cases h2 : h = b
      · subst h2
        rw [o, if_neg (by omega), if_pos ⟨rfl, rfl⟩, s, if_neg (by omega), if_pos rfl]
      · rw [o5 h h1 h2, sk (52 + h) (by omega) (by omega) (by omega)]
        exact (E4 h hh).2
  · rw [of 143 4 (by omega), sk' 8 (by decide) (by decide)]
    exact S1.1.1
  · rw [of 143 5 (by omega), sk' 4 (by decide) (by decide)]
    exact S1.1.2
  · rw [of 143 6 (by omega), sk' 5 (by decide) (by decide)]
    exact S1.2
  · rw [sk' 2 (by decide) (by decide)] at hh
    rw [of 146 _ (by omega), sk' _ (by omega) (by omega)]
    exact ⟨(S2 h hh).1, fun t ht => k_cm ((S2 h hh).2 t ht) (of 144 _ (by omega)) (of 145 _ (by omega)) (sk _ (by omega) (by omega) (by omega)) (sk _ (by omega) (by omega) (by omega))⟩
  · rw [sk' 1 (by decide) (by decide)] at ht
    rw [of 147 _ (by omega), sk' _ (by omega) (by omega)]
    exact S3 _ ht
  · rw [sk' 1 (by decide) (by decide)]
    exact X1.1
  · rw [sk' 2 (by decide) (by decide)]
    exact X1.2.1
  · rw [s3, inc]
    omega
  · rw [sk' 2 (by decide) (by decide)] at h1
    rw [o5 h (by omega) (by omega)]
    refine ⟨(X2 h h1 h2).1, fun t ht => ?_⟩
    rw [of 145 _ (by omega)]
    exact (X2 h h1 h2).2 t ht
  · rw [of 147 _ (by omega)]
    exact X3 _ ht
theorem C_readNumbers {T M : gM} {e : Nat} {x : hS} {l1 : Int32} {k : Int} (R : hc_R T M e x) (hl : l1.toInt = k) (hf : hs_full x.2 k = false) : Ok (F_X2_readNumbers (some 136) l1 M) (fun M' => hc_Fr e M M' ∧ hc_P T M' e (hs_body T k x)) := by
  have hf' := of_decide_eq_false hf
  have t : ∀ (c : Int32) (n : Int), c.toInt = n → ((l1 = c) ↔ (k = n)) := fun c n hc => ⟨fun e => by rw [← hl, e, hc], fun e => Int32.toInt_inj.mp (by rw [hl, hc, e])⟩
  have k136 := R.2.1.1.1.1
  delta F_X2_readNumbers F_X2_readNumbers_b0 F_X2_readNumbers_b191
  unfold hs_body
  by_cases c1 : k = 261
  · rw [if_pos c1, if_pos ((t 261 261 rfl).mpr c1)]
    exact x_gO k136 (Ok_b (C_readHeir R (by omega)) (fun M2 z => Ok_s z))
  rw [if_neg c1, if_neg (fun h => c1 ((t 261 261 rfl).mp h))]
  by_cases c2 : k = 262
  · rw [if_pos c2, if_pos ((t 262 262 rfl).mpr c2)]
    exact x_gO k136 (Ok_b (C_readThing R (by omega)) (fun M2 z => Ok_s z))
  rw [if_neg c2, if_neg (fun h => c2 ((t 262 262 rfl).mp h))]
  by_cases c3 : k = 267
  · rw [if_pos c3, if_pos ((t 267 267 rfl).mpr c3)]
    exact C_hate R
  rw [if_neg c3, if_neg (fun h => c3 ((t 267 267 rfl).mp h))]
  by_cases c4 : k = 268
  · rw [if_pos c4, if_pos ((t 268 268 rfl).mpr c4)]
    exact C_song R
  rw [if_neg c4, if_neg (fun h => c4 ((t 268 268 rfl).mp h))]
  by_cases c5 : k = 275
  · rw [if_pos c5, if_pos ((t 275 275 rfl).mpr c5)]
    exact C_asks R
  rw [if_neg c5, if_neg (fun h => c5 ((t 275 275 rfl).mp h))]
  by_cases c6 : k = 276
  · rw [if_pos c6, if_pos ((t 276 276 rfl).mpr c6)]
    exact x_gO k136 (Ok_b (C_readCousins R (by omega)) (fun M2 z => Ok_s z))
  rw [if_neg c6, if_neg (fun h => c6 ((t 276 276 rfl).mp h))]
  exact x_gO k136 (Ok_b (C_readKnows R) (fun M2 z => Ok_s z))
theorem C_isClause {M : gM} {l1 : Int32} {k : Int} (hl : l1.toInt = k) : F_X2_isClause l1 M = some (if hs_w k = false then 0 else 1) := by
  have t : ∀ (c : Int32) (n : Int), c.toInt = n → ((l1 = c) ↔ (k = n)) := fun c n hc => ⟨fun e => by rw [← hl, e, hc], fun e => Int32.toInt_inj.mp (by rw [hl, hc, e])⟩
  delta F_X2_isClause F_X2_isClause_b0 F_X2_isClause_b49
  simp only [t 275 275 rfl, t 262 262 rfl, t 268 268 rfl, t 261 261 rfl, t 267 267 rfl, t 276 276 rfl, t 277 277 rfl]
  by_cases h : hs_w k = false
  · have h' := of_decide_eq_false h
    rw [if_pos h, if_neg (by omega), if_neg (by omega), if_neg (by omega), if_neg (by omega), if_neg (by omega), if_neg (by omega), if_neg (by omega)]
  · have h' := of_decide_eq_true (Bool.of_not_eq_false h)
    rw [if_neg h]
    repeat' split
    all_goals first | rfl | (exfalso; omega)
theorem C_isFull {T M : gM} {e : Nat} {x : hS} {l1 : Int32} {k : Int} (R : hc_R T M e x) (hl : l1.toInt = k) : F_X2_isFull (some 136) l1 M = some (if hs_full x.2 k = true then 1 else 0) := by
  have t : ∀ (c : Int32) (n : Int), c.toInt = n → ((l1 = c) ↔ (k = n)) := fun c n hc => ⟨fun e => by rw [← hl, e, hc], fun e => Int32.toInt_inj.mp (by rw [hl, hc, e])⟩
  obtain ⟨⟨⟨⟨k136, r0⟩, r1, r2⟩, ke, k9⟩, ⟨⟨e6, e7⟩, e8⟩, e9, e10⟩ := hc_of R
  have z7 : (7 : Int32).toInt = 7 := rfl
  have z10 : (10 : Int32).toInt = 10 := rfl
  have g1 : ((7 : Int32) ≤ x.2 1) ↔ 7 ≤ (x.2 1).toInt := Int32.le_iff_toInt_le
  have g2 : ((7 : Int32) ≤ x.2 2) ↔ 7 ≤ (x.2 2).toInt := Int32.le_iff_toInt_le
  have g3 : (x.2 3 < (10 : Int32)) ↔ (x.2 3).toInt < 10 := Int32.lt_iff_toInt_lt
  delta F_X2_isFull F_X2_isFull_b0 F_X2_isFull_b19 F_X2_isFull_b38 F_X2_isFull_b57 F_X2_isFull_b61
  simp only [t_gR k136 r1, Option.bind_some, t_gI ke, e6, e7, e8, t 262 262 rfl, t 261 261 rfl, t 276 276 rfl, g1, g2, g3]
  by_cases h : hs_full x.2 k = true
  · have h' := of_decide_eq_true h
    rw [if_pos h]
    repeat' split
    all_goals first | rfl | (exfalso; omega)
  · have h' := of_decide_eq_false (b_ff h)
    rw [if_neg h]
    repeat' split
    all_goals first | rfl | (exfalso; omega)
theorem C_readHClause {T M : gM} {e cl : Nat} {x : hS} {l1 : Int32} (R : hc_R T M e x) (hl : l1.toInt = (cl : Int)) : Ok (F_X2_readClause (some 136) l1 M) (fun M' => hc_Fr e M M' ∧ hc_P T M' e (hs_cl T cl x)) := by
  obtain ⟨⟨⟨⟨k136, r0⟩, r1, r2⟩, ke, k9⟩, _⟩ := hc_of R
  have hz := z_Cs R.1.1
  have bl := fun {v : Int32} {l2 : Int32} {d : Nat} (h : v.toInt = (x.1 : Int)) (h2 : l2.toInt = (d : Int)) (hd : d ≤ 7) => hc_bl (l1 := v) (l2 := l2) (d := d) R hc_rf h (by omega) h2 hd
  have b72 : Ok (F_X2_readClause_b72 (some 136) M) (fun M' => hc_Fr e M M' ∧ hc_P T M' e (.inl (1 + 8 * x.1 + 4))) := by
    delta F_X2_readClause_b72
    refine x_gR k136 r0 (x_gR k136 r0 (x_gO k9 ?_))
    refine Ok_b (C_place R.1.1) (fun v4 h4 => ?_)
    refine x_gO k9 (x_eq (C_blame k9) ?_)
    exact Ok_s (bl h4 rfl (by decide))
  delta F_X2_readClause F_X2_readClause_b0
  unfold hs_cl
  refine x_gR k136 r0 (x_gO k9 ?_)
  refine Ok_b (C_kind R.1.1) (fun v3 h3 => ?_)
  refine x_eq (C_isClause h3) ?_
  by_cases cw : hs_w (k_kind T x.1) = false
  · rw [if_pos cw, if_pos cw]
    refine Ok_t rfl ?_
    refine x_gR k136 r0 (x_gR k136 r0 (x_gO k9 ?_))
    refine Ok_b (C_place R.1.1) (fun v4 h4 => ?_)
    refine x_gO k9 (x_eq (C_blame k9) ?_)
    exact Ok_s (bl h4 rfl (by decide))
  rw [if_neg cw, if_neg cw]
  refine Ok_e (by decide) ?_
  have z40 : (40 : Int32).toInt = 40 := rfl
  have z1 : (1 : Int32).toInt = 1 := rfl
  have z275 : (275 : Int32).toInt = 275 := rfl
  have e275 : v3 = 275 ↔ k_kind T x.1 = 275 := ⟨fun h => by rw [← h3, h]; rfl, fun h => Int32.toInt_inj.mp (by rw [h3, h]; rfl)⟩
  have e1 : l1 = 1 ↔ cl = 1 := ⟨fun h => by rw [h] at hl; omega, fun h => Int32.toInt_inj.mp (by omega)⟩
  have badT : ∀ h : (40 < cl ∨ ¬ (k_kind T x.1 = 275 ↔ cl = 1)) ∨ hs_full x.2 (k_kind T x.1) = true, hs_bad x.2 (k_kind T x.1) cl = true := by
    intro h
    unfold hs_bad
    rw [Bool.or_eq_true]
    exact h.imp decide_eq_true id
  refine Ok_i (fun c40 => ?_) (fun c40 => ?_)
  · have := i_lt c40
    rw [if_pos (badT (Or.inl (Or.inl (by omega))))]
    exact b72
  have c40' := i_nlt c40
  have main : ∀ s : Int32, (k_kind T x.1 = 275 ↔ cl = 1) → Ok (F_X2_readClause_b61 (some 136) v3 s s M) (fun M' => hc_Fr e M M' ∧ hc_P T M' e (if hs_bad x.2 (k_kind T x.1) cl = true then .inl (1 + 8 * x.1 + 4) else hs_body T (k_kind T x.1) (k_go T x.1, x.2))) := by
    intro s hs
    delta F_X2_readClause_b61
    refine Ok_t rfl (x_gO k136 ?_)
    refine x_eq (C_isFull R h3) ?_
    by_cases cf : hs_full x.2 (k_kind T x.1) = true
    · rw [if_pos cf, if_pos (badT (Or.inr cf))]
      exact Ok_e (by decide) b72
    · have nb : ¬ hs_bad x.2 (k_kind T x.1) cl = true := by
        unfold hs_bad
        rw [Bool.or_eq_true]
        rintro (h | h)
        · rcases of_decide_eq_true h with h | h
          · omega
          · exact h hs
        · exact cf h
      rw [if_neg cf, if_neg nb]
      refine Ok_t rfl (x_gR k136 r0 (x_gO k9 ?_))
      refine Ok_b (C_next R.1.1) (fun M5 z => ?_)
      have f5 := z_57a z.2
      have R5 : hc_R T M5 e (k_go T x.1, x.2) := hc_sq R.2.1 R.2.2 f5 z.1 (by rw [z.2.2 131 7 (by omega)]; exact R.1.2)
      refine x_gC R5.2.1.1.1.1 ?_
      refine Ok_b (C_readNumbers (x := (k_go T x.1, x.2)) R5 h3 (b_ff cf)) (fun M7 w => ?_)
      exact Ok_s ⟨hc_tr (hc_57 f5) w.1, w.2⟩
  by_cases c275 : k_kind T x.1 = 275
  · refine Ok_t (e275.mpr c275) ?_
    delta F_X2_readClause_b51
    by_cases c1 : cl = 1
    · refine Ok_t (e1.mpr c1) ?_
      exact main 1 (by omega)
    · refine Ok_e (fun h => c1 (e1.mp h)) ?_
      rw [if_pos (badT (Or.inl (Or.inr (by omega))))]
      delta F_X2_readClause_b61
      exact Ok_e (by decide) b72
  · refine Ok_e (fun h => c275 (e275.mp h)) ?_
    delta F_X2_readClause_b51
    by_cases c1 : cl = 1
    · refine Ok_t (e1.mpr c1) ?_
      rw [if_pos (badT (Or.inl (Or.inr (by omega))))]
      delta F_X2_readClause_b61
      exact Ok_e (by decide) b72
    · refine Ok_e (fun h => c1 (e1.mp h)) ?_
      exact main 0 (by omega)
theorem C_goesOnF {T M : gM} {e er : Nat} (Y : hc_Y T M e er) : Ok (F_X9_goesOn (some 131) M) (fun r => r.1 = 0 ∧ z_57 M r.2 ∧ hc_Y T r.2 e er) := by
  obtain ⟨p, C⟩ := Y.1.1
  have k9 := z_k131 C
  have fn := hc_Yn Y
  delta F_X9_goesOn F_X9_goesOn_b0
  rw [t_gO k9, Option.bind_some, C_faulty k9, Option.bind_some, if_neg fn, if_neg (by decide)]
  delta F_X9_goesOn_b19
  rw [t_gO k9, Option.bind_some]
  refine Ok_b (C_expect (l := 59) C) (fun M2 w => ?_)
  obtain ⟨C2, f57, w1, w2, w3⟩ := w
  have k92 := z_k131 C2
  have Y2 : hc_Y T M2 e er := ⟨⟨⟨_, C2⟩, by rw [w2 fn]; exact Y.1.2.1, Y.1.2.2⟩, hc_Lm Y.2 (hc_57 f57)⟩
  rw [t_gC k92, Option.bind_some, C_faulty k92, Option.bind_some, if_neg (hc_Yn Y2), if_neg (by decide)]
  exact Ok_s ⟨rfl, f57, Y2⟩
theorem C_hread_end {n : Nat} {l2 : Int32} {M : gM} : F_X2_read_L29 (n + 1) (some 136) (0 : Int32) l2 M = F_X2_read_b58 (some 136) M := by
  show F_X2_read_b29 (F_X2_read_L29 n) (some 136) (0 : Int32) l2 M = _
  delta F_X2_read_b29
  by_cases c : (41 : Int32) < l2
  · rw [if_pos c]
  · rw [if_neg c, if_pos rfl]
theorem C_hread_L29 {T : gM} {e : Nat} : ∀ (n cl : Nat) {l2 : Int32} {M : gM} {x : hS}, hc_R T M e x → l2.toInt = (cl : Int) → 1 ≤ cl → cl ≤ 41 → 43 - cl < n → ∃ Mk, F_X2_read_L29 n (some 136) (1 : Int32) l2 M = F_X2_read_b58 (some 136) Mk ∧ hc_Fr e M Mk ∧ hc_P T Mk e (hs_tl T (43 - cl) cl x) := by
  intro n
  induction n with
  | zero => intro cl l2 M x R h2 h1 hc hn; omega
  | succ n ih =>
    intro cl l2 M x R h2 h1 hc hn
    have k136 := R.2.1.1.1.1
    have z41 : (41 : Int32).toInt = 41 := rfl
    have e' : F_X2_read_L29 (n + 1) (some 136) (1 : Int32) l2 M = (F_X2_readClause (some 136) l2 M).bind fun M2 => (gR 2 M2 (some 136) 0).bind fun v3 => (gO 9 M2 v3).bind fun i4 => (F_X9_goesOn (some i4) M2).bind fun (v5, M6) => F_X2_read_L29 n (some 136) v5 (l2 + 1) M6 := by
      show F_X2_read_b29 (F_X2_read_L29 n) (some 136) (1 : Int32) l2 M = _
      delta F_X2_read_b29
      rw [if_neg (fun z => by have := i_lt z; omega), if_neg (by decide), t_gO k136, Option.bind_some]
    obtain ⟨M2, e2, f2, q2⟩ := C_readHClause R h2
    rw [e', e2, Option.bind_some]
    obtain ⟨n', rfl⟩ : ∃ m, n = m + 1 := ⟨n - 1, by omega⟩
    rw [show 43 - cl = (42 - cl) + 1 by omega]
    unfold hs_tl
    cases hit : hs_cl T cl x with
    | inl er =>
      rw [hit] at q2
      have Y : hc_Y T M2 e er := q2
      rw [t_gR (hc_Yof Y).1.1.1 (hc_Yof Y).1.1.2, Option.bind_some, t_gO (hc_Yk Y), Option.bind_some]
      obtain ⟨⟨v5, M6⟩, e6, g1, g2, g3⟩ := C_goesOnF Y
      dsimp only at g1 g2 g3
      rw [e6, Option.bind_some]
      dsimp only
      rw [g1, C_hread_end]
      exact ⟨M6, rfl, hc_tr f2 (hc_57 g2), g3⟩
    | inr y =>
      rw [hit] at q2
      have R2 : hc_R T M2 e y := q2
      have cl40 : cl ≤ 40 := by
        rcases Nat.lt_or_ge 40 cl with h | h
        · exfalso
          unfold hs_cl at hit
          by_cases c : hs_w (k_kind T x.1) = false
          · rw [if_pos c] at hit
            cases hit
          · have hb : hs_bad x.2 (k_kind T x.1) cl = true := by
              unfold hs_bad
              rw [decide_eq_true (Or.inl h)]
              rfl
            rw [if_neg c, if_pos hb] at hit
            cases hit
        · exact h
      rw [t_gR R2.2.1.1.1.1 R2.2.1.1.1.2, Option.bind_some, t_gO (z_k131 R2.1.1), Option.bind_some]
      obtain ⟨⟨v5, M6⟩, e6, ⟨g1, q6, gC⟩, ga, gb, gc⟩ := C_goesOn R2.1.1 R2.1.2
      dsimp only at g1 gC ga gb gc
      rw [e6, Option.bind_some]
      dsimp only
      by_cases c256 : k_kind T y.1 = 256
      · obtain ⟨a1, a2⟩ := ga c256
        rw [if_pos c256, a1, a2, C_hread_end]
        exact ⟨M2, rfl, f2, R2⟩
      · rw [if_neg c256]
        by_cases c59 : k_kind T y.1 = 59
        · obtain ⟨a1, a2, a3⟩ := gb c59
          rw [if_pos c59, a1]
          have R6 : hc_R T M6 e (k_go T y.1, y.2) := hc_sq R2.2.1 R2.2.2 g1 a2 a3
          obtain ⟨Mk, b1, b2, b3⟩ := ih (cl + 1) (l2 := l2 + 1) R6 (by rw [show (l2 + 1 : Int32) = Int32.ofNat (cl + 1) from n_inc h2 (by omega), i_ofNat (by omega)]) (by omega) (by omega) (by omega)
          rw [show 43 - (cl + 1) = 42 - cl by omega] at b3
          exact ⟨Mk, b1, hc_tr f2 (hc_tr (hc_57 g1) b2), b3⟩
        · obtain ⟨a1, a2⟩ := gc c256 c59
          rw [if_neg c59, a1, C_hread_end]
          exact ⟨M6, rfl, hc_tr f2 (hc_57 g1), ⟨⟨_, gC⟩, a2, by omega⟩, hc_Lm R2.2.1 (hc_57 g1)⟩
-- 7u.8g.hcls5
/-! house() of the class: how many heirs, or the FAULT; what it leaves -/
def hr_Fr (e : Nat) (M M' : gM) : Prop := ((∀ i, i < e → g_k M' i = g_k M i) ∧ ∀ i, i < e → M'.2.2.1 i = M.2.2.1 i) ∧ (∀ i, i < e → ∀ k, ¬ (i = 136 ∧ k = 1) → M'.2.2.2 i k = M.2.2.2 i k) ∧ ∀ i, i < e → ∀ k, ¬ z_W i k → ¬ (143 ≤ i ∧ i ≤ 147) → M'.2.1 i k = M.2.1 i k
theorem C_hread {T M : gM} {e : Nat} {σ : Nat → Int32} (Z : z_T T M) (he : e = M.1.length) (hl : 197 ≤ e) (k136 : g_k M 136 = (2, 0)) (r0 : M.2.2.2 136 0 = some 131) (r2 : M.2.2.2 136 2 = some 143) (L : k_LS M 143) (h0 : ∀ k, k < 10 → σ k = 0) : ∃ Mk, F_X2_read (some 136) M = F_X2_read_b58 (some 136) Mk ∧ hr_Fr e M Mk ∧ hc_P T Mk e (hs_text T σ) := by
  have k9 : g_k M 131 = (9, 0) := Z.1.1.1.1.1.1
  obtain ⟨M3, e3, f3, ⟨N, hE, hP⟩, h5, h7⟩ := C_split Z
  have Z3 := z_Tm Z f3
  have C3 : z_C T M3 (n_sk T 0) := ⟨Z3, N, 0, hE, hP, Nat.zero_le _, by rw [h5]; rfl, rfl⟩
  have k3 : ∀ i, g_k M3 i = g_k M i := fun i => q_k_of f3.1.1
  have len3 : e = M3.1.length := by rw [f3.1.1]; exact he
  obtain ⟨M4, e4, LE4, len4, o4, z4⟩ := C_newHouse len3
  obtain ⟨M5, h5'⟩ : ∃ M5, M5 = mR M4 136 1 (some e) := ⟨_, rfl⟩
  have g5 : ∀ i, g_k M5 i = g_k M4 i := fun i => by rw [h5']; rfl
  have i5 : M5.2.1 = M4.2.1 := by rw [h5']; rfl
  have l5 : M5.2.2.1 = M4.2.2.1 := by rw [h5']; rfl
  have q5 : M5.2.2.2 136 1 = some e := by
    rw [h5']
    show g_up M4.2.2.2 136 1 (some e) 136 1 = _
    unfold g_up
    rw [if_pos rfl, if_pos rfl]
  have p5 : ∀ i k, ¬ (i = 136 ∧ k = 1) → M5.2.2.2 i k = M4.2.2.2 i k := fun i k h => by
    rw [h5']
    show g_up M4.2.2.2 136 1 (some e) i k = _
    unfold g_up
    by_cases a : i = 136
    · rw [if_pos a, if_neg (fun b => h ⟨a, b⟩)]
    · rw [if_neg a]
  have LE5 : k_LE M5 e := ⟨(g5 e).trans LE4.1, fun i hi => ⟨(g5 _).trans (LE4.2 i hi).1, (p5 e i (by omega)).trans (LE4.2 i hi).2⟩⟩
  have g5' : ∀ i, i < e → g_k M5 i = g_k M i := fun i hi => (g5 i).trans ((o4 i hi).1.1.trans (k3 i))
  have r5' : ∀ i k, i < e → ¬ (i = 136 ∧ k = 1) → M5.2.2.2 i k = M.2.2.2 i k := fun i k hi h => (p5 i k h).trans (by rw [(o4 i hi).2.2, f3.1.2.2])
  have n5 : ∀ i k, i < e → M5.2.1 i k = M3.2.1 i k := fun i k hi => by rw [i5, (o4 i hi).1.2]
  have LS5 : k_LS M5 143 := by
    unfold k_LS at L ⊢
    rw [g5' 143 (by omega), g5' 144 (by omega), g5' 145 (by omega), g5' 146 (by omega), g5' 147 (by omega), r5' 143 0 (by omega) (by omega), r5' 143 1 (by omega) (by omega), r5' 143 2 (by omega) (by omega), r5' 143 3 (by omega) (by omega)]
    exact L
  obtain ⟨M8, e8, f8, ⟨⟨w4, w6⟩, v3⟩, v4⟩ := C_clear LS5
  have W4 : M8.2.1 143 4 = 0 ∧ M8.2.1 143 5 = 0 := w4
  have g8 : ∀ i, g_k M8 i = g_k M5 i := fun i => q_k_of f8.1.1.1
  have n8 : ∀ i k, i < 143 ∨ 147 < i → M8.2.1 i k = M5.2.1 i k := fun i k hi => by rw [f8.2 i hi]
  have C8 : z_C T M8 (n_sk T 0) := z_Cy C3 (fun i h1 h2 => by rw [g8, g5' i (by omega), k3]) (fun i k h => by rw [f8.1.2, r5' i k (by omega) (by omega), f3.1.2.2]) (fun i k h1 h2 => by rw [n8 i k (by omega), n5 i k (by omega)])
  have s1 : (σ 1).toInt = 0 := by rw [h0 1 (by decide)]; rfl
  have s2 : (σ 2).toInt = 0 := by rw [h0 2 (by decide)]; rfl
  have s3 : (σ 3).toInt = 0 := by rw [h0 3 (by decide)]; rfl
  have ze : ∀ i k, e ≤ i → i ≤ e + 5 → M8.2.1 i k = 0 := fun i k h1 h2 => by rw [n8 i k (by omega), i5]; exact z4 i h1 h2 k
  have R8 : hc_R T M8 e (n_sk T 0, σ) := by
    refine ⟨⟨C8, ?_⟩, ⟨⟨⟨?_, ?_⟩, ?_, ?_⟩, ⟨k_LEm LE5 g8 f8.1.2, k_Fs_LS LS5 f8⟩, hl⟩, ⟨⟨⟨⟨?_, ?_⟩, ?_⟩, ⟨?_, ?_⟩, fun t ht => ?_, fun h hh => ?_⟩, ⟨⟨?_, ?_⟩, ?_⟩, fun h hh => ?_, fun t ht => ?_⟩, ⟨?_, ?_, ?_⟩, fun h h1 h2 => ⟨?_, fun t ht => ?_⟩, fun t ht => ?_⟩
    all_goals try dsimp only at *
    · rw [n8 131 7 (by omega), n5 131 7 (by omega)]
      exact h7
    · rw [g8, g5' 136 (by omega)]
      exact k136
    · rw [f8.1.2, r5' 136 0 (by omega) (by omega)]
      exact r0
    · rw [f8.1.2]
      exact q5
    · rw [f8.1.2, r5' 136 2 (by omega) (by omega)]
      exact r2
    · rw [ze e 6 (by omega) (by omega), h0 1 (by decide)]
    · rw [ze e 7 (by omega) (by omega), h0 2 (by decide)]
    · rw [ze e 8 (by omega) (by omega), h0 3 (by decide)]
    · rw [ze e 9 (by omega) (by omega), h0 7 (by decide)]
    · rw [ze e 10 (by omega) (by omega), h0 6 (by decide)]
    · omega
    · omega
    · rw [W4.1, h0 8 (by decide)]
    · rw [W4.2, h0 4 (by decide)]
    · rw [h0 5 (by decide)]
      exact w6
    · omega
    · omega
    · omega
    · omega
    · omega
    · exact ze (e + 5) h (by omega) (by omega)
    · exact (v4 (7 * h + t) (by omega)).2
    · exact (v3 t ht).2
  have F8 : hr_Fr e M M8 := by
    refine ⟨⟨fun i hi => (g8 i).trans (g5' i hi), fun i hi => ?_⟩, fun i hi k h => ?_, fun i hi k h1 h2 => ?_⟩
    · rw [f8.1.1.2, l5, (o4 i hi).2.1, f3.1.2.1]
    · rw [f8.1.2]
      exact r5' i k hi h
    · rw [n8 i k (by omega), n5 i k hi]
      exact f3.2 i k h1
  obtain ⟨Mk, c1, c2, c3⟩ := C_hread_L29 g_fuel 1 (l2 := (1 : Int32)) R8 rfl (by decide) (by decide) (by have : g_fuel = 1000000000 := rfl; omega)
  refine ⟨Mk, ?_, ?_, c3⟩
  · delta F_X2_read F_X2_read_b0
    rw [t_gR k136 r0, Option.bind_some, t_gO k9, Option.bind_some, e3, Option.bind_some, ← len3, e4, Option.bind_some]
    have k4 : g_k M4 136 = (2, 0) := by rw [(o4 136 (by omega)).1.1, k3]; exact k136
    have ep : pR 2 M4 (some 136) 1 (some e) = some M5 := by
      unfold pR
      rw [Option.bind_some, if_pos k4, h5']
    rw [ep, Option.bind_some, t_gR (w := some 143) ((g5 136).trans k4) (by rw [r5' 136 2 (by omega) (by omega)]; exact r2), Option.bind_some, t_gO LS5.1.1, Option.bind_some, e8, Option.bind_some]
    exact c1
  · refine ⟨⟨fun i hi => ?_, fun i hi => ?_⟩, fun i hi k h => ?_, fun i hi k h1 h2 => ?_⟩
    · rw [q_k_of c2.1.1.1]
      exact F8.1.1 i hi
    · rw [c2.1.1.2]
      exact F8.1.2 i hi
    · rw [c2.1.2]
      exact F8.2.1 i hi k h
    · rw [c2.2 i k (by unfold hc_w; unfold z_W at h1; omega)]
      exact F8.2.2 i hi k h1 h2
theorem C_houseX {T M : gM} {e : Nat} {σ : Nat → Int32} (Z : z_T T M) (he : e = M.1.length) (hl : 197 ≤ e) (k2 : g_k M 2 = (11, 0)) (r : (M.2.2.2 2 0 = some 131 ∧ M.2.2.2 2 1 = some 136) ∧ M.2.2.2 2 5 = some 9 ∧ M.2.2.2 2 7 = some 19) (k4 : g_k M 19 = (4, 0)) (k136 : g_k M 136 = (2, 0)) (r0 : M.2.2.2 136 0 = some 131) (r2 : M.2.2.2 136 2 = some 143) (L : k_LS M 143) (L9 : k_LS M 9) (h0 : ∀ k, k < 10 → σ k = 0) :
    Ok (F_X11_house (some 2) M) (fun w => ((∀ i, i < e → g_k w.2 i = g_k M i) ∧ (∀ i, i < e → w.2.2.2.1 i = M.2.2.1 i) ∧ (∀ i, i < e → ∀ k, ¬ (i = 136 ∧ k = 1) → ¬ (i = 2 ∧ k = 11) → w.2.2.2.2 i k = M.2.2.2 i k) ∧ w.2.2.1 131 6 = 0 ∧ ∀ i, i < e → ∀ k, ¬ (z_W i k ∨ (i = 131 ∧ k = 6)) → ¬ (143 ≤ i ∧ i ≤ 147) → ¬ (9 ≤ i ∧ i ≤ 13) → ¬ (i = 19 ∧ k = 2) → w.2.2.1 i k = M.2.1 i k) ∧
      (match hs_text T σ with
      | .inl er => (∃ v : Int32, w.1 = (-2 : Int32) - v ∧ v.toInt = (er : Int)) ∧ w.2.2.2.2 2 11 = M.2.2.2 2 11 ∧ (∀ i k, 9 ≤ i → i ≤ 13 → w.2.2.1 i k = M.2.1 i k) ∧ w.2.2.1 19 2 = M.2.1 19 2
      | .inr y => (w.1 = y.2 2 ∧ w.2.2.2.2 2 11 = some e) ∧ (k_LE w.2 e ∧ k_E w.2 e y.2) ∧ (w.2.2.1 e 5 = 1 ∧ k_S w.2 9 y.2) ∧ w.2.2.1 19 2 = 0)) := by
  obtain ⟨Mk, c1, ⟨⟨fk, fl⟩, fr, fi⟩, c3⟩ := C_hread Z he hl k136 r0 r2 L h0
  have kk : ∀ i, i < e → g_k Mk i = g_k M i := fk
  delta F_X11_house F_X11_house_b0
  refine x_gR k2 r.1.2 (x_gO k136 ?_)
  rw [c1]
  delta F_X2_read_b58
  have K2 : g_k Mk 2 = (11, 0) := (kk 2 (by omega)).trans k2
  have q0 : Mk.2.2.2 2 0 = some 131 := (fr 2 (by omega) 0 (by omega)).trans r.1.1
  cases hit : hs_text T σ with
  | inl er =>
    rw [hit] at c3
    have Y : hc_Y T Mk e er := c3
    rw [t_gR (hc_Yof Y).1.1.1 (hc_Yof Y).1.1.2, Option.bind_some, t_gO (hc_Yk Y), Option.bind_some, C_faulty (hc_Yk Y), Option.bind_some, if_neg (hc_Yn Y), if_neg (by decide), Option.bind_some]
    dsimp only
    have k9y : g_k Mk 131 = (9, 0) := hc_Yk Y
    refine x_gR K2 q0 (x_pI k9y ?_)
    refine Ok_t rfl ?_
    refine x_gR K2 q0 (x_gI (show g_k (mI Mk 131 6 0) 131 = (9, 0) from k9y) (mI_ne (Or.inr (by decide))) ?_)
    refine Ok_s ⟨⟨fun i hi => fk i hi, fun i hi => fl i hi, fun i hi k h1 h2 => fr i hi k h1, y_mI1, fun i hi k h1 h2 h3 h4 => ?_⟩, ⟨_, rfl, Y.1.2.1⟩, fr 2 (by omega) 11 (by omega), fun i k h1 h2 => ?_, ?_⟩
    · show (mI Mk 131 6 0).2.1 i k = _
      rw [mI_ne (by omega)]
      exact fi i hi k (fun z => h1 (Or.inl z)) h2
    · show (mI Mk 131 6 0).2.1 i k = _
      rw [mI_ne (by omega)]
      exact fi i (by omega) k (by unfold z_W; omega) (by omega)
    · show (mI Mk 131 6 0).2.1 19 2 = _
      rw [mI_ne (by omega)]
      exact fi 19 (by omega) 2 (by unfold z_W; omega) (by omega)
  | inr y =>
    rw [hit] at c3
    have R : hc_R T Mk e y := c3
    obtain ⟨⟨C, f0⟩, L', ⟨E, S⟩, X1, X2, X3⟩ := R
    have k9 := z_k131 C
    obtain ⟨⟨⟨k136', r0'⟩, r1', r2'⟩, ⟨⟨ke, kr⟩, LS⟩, he'⟩ := L'
    rw [t_gR k136' r0', Option.bind_some, t_gO k9, Option.bind_some, C_faulty k9, Option.bind_some, if_pos f0, if_pos rfl, t_gR k136' r1', Option.bind_some, t_pI ke, Option.bind_some]
    obtain ⟨Ma, ha⟩ : ∃ Ma, Ma = mI Mk e 5 (1 : Int32) := ⟨_, rfl⟩
    rw [← ha]
    have ga : ∀ i, g_k Ma i = g_k Mk i := fun i => by rw [ha]; rfl
    have ra : Ma.2.2.2 = Mk.2.2.2 := by rw [ha]; rfl
    have la : Ma.2.2.1 = Mk.2.2.1 := by rw [ha]; rfl
    have na : ∀ i k, ¬ (i = e ∧ k = 5) → Ma.2.1 i k = Mk.2.1 i k := fun i k h => by rw [ha]; exact mI_ne (by omega)
    have na5 : Ma.2.1 e 5 = 1 := by rw [ha]; exact y_mI1
    clear ha
    rw [t_gR (w := some e) ((ga _).trans k136') (by rw [ra]; exact r1'), Option.bind_some, Option.bind_some]
    dsimp only
    refine x_gR ((ga _).trans K2) (by rw [ra]; exact q0) (x_pI ((ga _).trans k9) ?_)
    refine Ok_e (by simp) ?_
    obtain ⟨Mb, hb⟩ : ∃ Mb, Mb = mI Ma 131 6 (0 : Int32) := ⟨_, rfl⟩
    rw [← hb]
    have gb : ∀ i, g_k Mb i = g_k Mk i := fun i => by rw [hb]; exact ga i
    have rb : Mb.2.2.2 = Mk.2.2.2 := by rw [hb]; exact ra
    have lb : Mb.2.2.1 = Mk.2.2.1 := by rw [hb]; exact la
    have nb : ∀ i k, ¬ (i = 131 ∧ k = 6) → Mb.2.1 i k = Ma.2.1 i k := fun i k h => by rw [hb]; exact mI_ne (by omega)
    have nb6 : Mb.2.1 131 6 = 0 := by rw [hb]; exact y_mI1
    clear hb
    have KB := (gb 2).trans K2
    unfold pR
    rw [Option.bind_some, if_pos KB, Option.bind_some]
    obtain ⟨Mc, hc⟩ : ∃ Mc, Mc = mR Mb 2 11 (some e) := ⟨_, rfl⟩
    rw [← hc]
    have gc : ∀ i, g_k Mc i = g_k Mk i := fun i => by rw [hc]; exact gb i
    have ic : Mc.2.1 = Mb.2.1 := by rw [hc]; rfl
    have lc : Mc.2.2.1 = Mk.2.2.1 := by rw [hc]; exact lb
    have rc1 : Mc.2.2.2 2 11 = some e := by
      rw [hc]
      show g_up Mb.2.2.2 2 11 (some e) 2 11 = _
      unfold g_up
      rw [if_pos rfl, if_pos rfl]
    have rc : ∀ i k, ¬ (i = 2 ∧ k = 11) → Mc.2.2.2 i k = Mk.2.2.2 i k := fun i k h => by
      rw [hc]
      show g_up Mb.2.2.2 2 11 (some e) i k = _
      rw [rb]
      unfold g_up
      by_cases a : i = 2
      · rw [if_pos a, if_neg (fun b => h ⟨a, b⟩)]
      · rw [if_neg a]
    clear hc
    have KC := (gc 2).trans K2
    have f2 : ∀ k, k ≠ 11 → Mc.2.2.2 2 k = M.2.2.2 2 k := fun k hk => (rc 2 k (by omega)).trans (fr 2 (by omega) k (by omega))
    have L9k : k_LS Mc 9 := by
      unfold k_LS at L9 ⊢
      rw [gc, gc, gc, gc, gc, kk 9 (by omega), kk (9 + 1) (by omega), kk (9 + 2) (by omega), kk (9 + 3) (by omega), kk (9 + 4) (by omega), rc 9 0 (by omega), rc 9 1 (by omega), rc 9 2 (by omega), rc 9 3 (by omega), fr 9 (by omega) 0 (by omega), fr 9 (by omega) 1 (by omega), fr 9 (by omega) 2 (by omega), fr 9 (by omega) 3 (by omega)]
      exact L9
    have LSc : k_LS Mc 143 := by
      unfold k_LS at LS ⊢
      rw [gc, gc, gc, gc, gc, rc 143 0 (by omega), rc 143 1 (by omega), rc 143 2 (by omega), rc 143 3 (by omega)]
      exact LS
    refine x_gR KC ((f2 5 (by decide)).trans r.2.1) (x_gR KC ((f2 1 (by decide)).trans r.1.2) ?_)
    refine x_gR ((gc _).trans k136') ((rc 136 2 (by omega)).trans r2') (x_gO L9k.1.1 ?_)
    obtain ⟨Md, ed, fd, d1, d2, d3⟩ := C_copy L9k LSc (by omega)
    refine x_eq ed ?_
    have gd : ∀ i, g_k Md i = g_k Mk i := fun i => (q_k_of fd.1.1.1).trans (gc i)
    have KD := (gd 2).trans K2
    have k4' : g_k Md 19 = (4, 0) := (gd 19).trans ((kk 19 (by omega)).trans k4)
    refine x_gR KD (by rw [fd.1.2]; exact (f2 7 (by decide)).trans r.2.2) (x_gO k4' ?_)
    delta F_X4_clear F_X4_clear_b0
    rw [t_pI k4', Option.bind_some, Option.bind_some]
    have od : ∀ i k, i < 9 ∨ 13 < i → Md.2.1 i k = Mb.2.1 i k := fun i k h => by rw [fd.2 i (by omega), ic]
    have oe : ∀ i k, 197 ≤ i → ¬ (i = e ∧ k = 5) → Md.2.1 i k = Mk.2.1 i k := fun i k h h2 => by rw [od i k (by omega), nb i k (by omega), na i k h2]
    refine x_gR (i := 2) (w := some e) KD (by show Md.2.2.2 2 11 = _; rw [fd.1.2]; exact rc1) (x_gI (v := y.2 2) ((gd e).trans ke) (by rw [mI_ne (Or.inl (by omega)), oe e 7 (by omega) (by omega)]; exact E.1.1.2) ?_)
    refine Ok_s ⟨⟨fun i hi => ?_, fun i hi => ?_, fun i hi k h1 h2 => ?_, ?_, fun i hi k h1 h2 h3 h4 => ?_⟩, ⟨rfl, ?_⟩, ⟨⟨?_, fun i hi => ⟨?_, ?_⟩⟩, k_Em E (fun i k h1 h2 h3 => ?_)⟩, ⟨?_, ?_⟩, y_mI1⟩
    · exact (gd i).trans (kk i hi)
    · show Md.2.2.1 i = _
      rw [fd.1.1.2, lc]
      exact fl i hi
    · show Md.2.2.2 i k = _
      rw [fd.1.2, rc i k h2]
      exact fr i hi k h1
    · rw [mI_ne (Or.inl (by decide)), od 131 6 (by omega)]
      exact nb6
    · show (mI Md 19 2 0).2.1 i k = _
      rw [mI_ne (by omega), od i k (by omega), nb i k (fun z => h1 (Or.inr z)), na i k (by omega)]
      exact fi i hi k (fun z => h1 (Or.inl z)) h2
    · show Md.2.2.2 2 11 = _
      rw [fd.1.2]
      exact rc1
    · exact (gd e).trans ke
    · exact (gd _).trans (kr i hi).1
    · show Md.2.2.2 e i = _
      rw [fd.1.2, rc e i (by omega)]
      exact (kr i hi).2
    · rw [mI_ne (Or.inl (by omega)), oe i k (by omega) h3]
    · rw [mI_ne (Or.inl (by omega)), od e 5 (by omega), nb e 5 (by omega)]
      exact na5
    · have Sc : k_S Mc 143 y.2 := k_Sm S (fun i k h1 h2 => by rw [ic, nb i k (by omega), na i k (by omega)])
      exact k_Sm (k_S_copy Sc ⟨X1.1.2, X1.2.1.2⟩ d1 d2 d3) (fun i k h1 h2 => mI_ne (Or.inl (by omega)))
-- 7v.8h.href
/-! the reference reads a HOUSE -/
abbrev he_A : Nat := 2 ^ 8 + 2 ^ 9 + 2 ^ 10 + 2 ^ 46
/-- no FAULT yet; the reading stands at x; 'read' holds x's cells -/
def he_R (T M : gM) (x : hS) : Prop := (y_HT M ∧ n_x M ≤ n_s M) ∧ (n_b M = n_b T ∧ n_s M = n_s T) ∧ (n_sk T (n_x M) = x.1 ∧ M.2.1 175 9 = 0) ∧ M.2.1 181 = x.2
/-- and just ahead of it -/
def he_S (T M : gM) (x : hS) : Prop := he_R T M x ∧ n_x M = x.1
def he_Y (M : gM) (er : Nat) : Prop := y_HT M ∧ (M.2.1 175 9).toInt = (er : Int) ∧ M.2.1 175 9 ≠ 0
def he_P (T : gM) (r : hs_R) (y : Int32 × gM) : Prop := match r with
  | .inl er => y.1 = 0 ∧ he_Y y.2 er
  | .inr x => y.1 = 1 ∧ he_R T y.2 x
def he_Q (T : gM) (r : hs_R) (M : gM) : Int32 × gM → Prop := fun y => y_Fr he_A M y.2 ∧ he_P T r y
theorem he_R_fr {S : Nat} {T M M' : gM} {x : hS} (R : he_R T M x) (H : y_HT M') (f : y_Fr S M M') (h : Nat.land S (2 ^ 1 + 2 ^ 8 + 2 ^ 9 + 2 ^ 41 + 2 ^ 46) = 0) : he_R T M' x := by
  have e8 := n_fx f (y_dis h (by decide))
  have e1 := n_fs f (y_dis h (by decide))
  refine ⟨⟨H, by rw [e8, e1]; exact R.1.2⟩, ⟨(funext (fun q => y_fa (i := 176) f (by decide) (y_dis h (by decide)) q)).trans R.2.1.1, e1.trans R.2.1.2⟩, ⟨by rw [e8]; exact R.2.2.1.1, by rw [y_fk (i := 175) (k := 9) f (y_dis h (by decide))]; exact R.2.2.1.2⟩, ?_⟩
  rw [← R.2.2.2]
  exact funext (fun q => y_fa (i := 181) f (by decide) (y_dis h (by decide)) q)
theorem he_at {T M : gM} {x : hS} {p : Nat} (R : he_R T M x) (h : p ≤ n_s M) : y_Fr he_A M (n_at M p) ∧ he_R T (n_at M p) (n_sk T p, x.2) := by
  have s1 := n_s1 R.1.1
  obtain ⟨H, f⟩ := n_at_set (p := p) R.1.1 (by omega)
  exact ⟨y_fl (by decide) f, ⟨H, by rw [n_at_x (by omega), n_at_s]; exact h⟩, ⟨n_at_b.trans R.2.1.1, n_at_s.trans R.2.1.2⟩, ⟨by rw [n_at_x (by omega)], (n_atk (by decide)).trans R.2.2.1.2⟩, (n_ata (by decide)).trans R.2.2.2⟩
theorem he_x {T M : gM} {x : hS} (R : he_R T M x) : n_sk M (n_x M) = x.1 ∧ x.1 ≤ n_s M ∧ n_s M ≤ 400 := by
  have e := (n_T R.2.1.1 R.2.1.2).1.2.1.1
  have k1 := n_sk_le R.1.2
  have s1 := n_s1 R.1.1
  have e1 : n_sk M (n_x M) = x.1 := by rw [e]; exact R.2.2.1.1
  exact ⟨e1, by omega, by omega⟩
theorem he_sk {T M : gM} {x : hS} (R : he_R T M x) : n_sk T x.1 = x.1 := by rw [← R.2.2.1.1, n_sk_sk]
theorem e_see {T M M0 : gM} {x : hS} {β : Type} {f : Int32 × gM → Option β} {Q : β → Prop} (R : he_R T M x) (F : y_Fr he_A M0 M) (g : ∀ M', y_Fr he_A M0 M' → he_S T M' x → Ok (f (n_c T x.1, M')) Q) : Ok ((F_X12_see (some 175) M).bind f) Q := by
  obtain ⟨e1, e2, e3⟩ := he_x R
  have ec := (n_T R.2.1.1 R.2.1.2).2.2.1.2
  rw [R_see R.1.1 R.1.2, Option.bind_some, e1, ec]
  obtain ⟨f1, R1⟩ := he_at R e2
  rw [he_sk R] at R1
  exact g _ (y_tr F f1) ⟨R1, n_at_x (by omega)⟩
theorem e_word {T M : gM} {x : hS} {w : Int64} {β : Type} {f : Int32 × gM → Option β} {Q : β → Prop} (S : he_S T M x) (g : Ok (f (if n_w T x.1 w = true then 1 else 0, M)) Q) : Ok ((F_X12_isWord (some 175) w M).bind f) Q := by
  obtain ⟨e1, e2, e3⟩ := he_x S.1
  have ew := (n_T S.1.2.1.1 S.1.2.1.2).2.1.1
  have ea : n_at M x.1 = M := by rw [← S.2]; exact n_at_self S.1.1.1
  rw [R_isWord S.1.1.1 S.1.1.2, Option.bind_some, e1, ew, ea]
  exact g
theorem e_pass {T M M0 : gM} {x : hS} {β : Type} {f : gM → Option β} {Q : β → Prop} (S : he_S T M x) (hL : n_L T x.1 = true) (F : y_Fr he_A M0 M) (g : ∀ M', y_Fr he_A M0 M' → he_R T M' (k_go T x.1, x.2) → Ok (f M') Q) : Ok ((F_X12_passWord (some 175) M).bind f) Q := by
  obtain ⟨e1, e2, e3⟩ := he_x S.1
  have el := (n_T S.1.2.1.1 S.1.2.1.2).1.2.1.2
  have k1 := n_le_le (M := M) (p := n_x M) S.1.1.2
  rw [R_passWord S.1.1.1 S.1.1.2, Option.bind_some]
  obtain ⟨f1, R1⟩ := he_at (p := n_le M (n_x M)) S.1 k1.2
  refine g _ (y_tr F f1) ?_
  rw [k_go_L hL]
  have e : n_le T x.1 = n_le M (n_x M) := by rw [el, S.2]
  rw [e]
  exact R1
theorem he_fail {M M0 : gM} {k p : Int32} {q d : Nat} (H : y_HT M) (F : y_Fr he_A M0 M) (h : M.2.1 175 9 = 0) (hp : p.toInt = (q : Int)) (hq : q ≤ 400) (hk : k.toInt = (d : Int)) (hd : d ≤ 4) : y_Fr he_A M0 (n_f M k p) ∧ he_Y (n_f M k p) (1 + 8 * q + d) := by
  obtain ⟨H1, f1⟩ := n_f_set (k := k) (p := p) H
  exact ⟨y_tr F (y_fl (by decide) f1), H1, n_f_0 h hp hq hk (by omega), n_f9 hp hq (by omega)⟩
/-- a FAULT ends it -/
theorem e_fails {T M M0 : gM} {k p : Int32} {q d : Nat} (H : y_HT M) (F : y_Fr he_A M0 M) (h : M.2.1 175 9 = 0) (hp : p.toInt = (q : Int)) (hq : q ≤ 400) (hk : k.toInt = (d : Int)) (hd : d ≤ 4) : Ok ((F_X12_fails (some 175) k p M).bind fun (v2, M3) => if v2 = 0 ∨ v2 = 1 then some (v2, M3) else none) (he_Q T (.inl (1 + 8 * q + d)) M0) := by
  rw [R_fails H, Option.bind_some]
  dsimp only
  rw [if_pos (Or.inl rfl)]
  obtain ⟨a, b⟩ := he_fail (k := k) (p := p) H F h hp hq hk hd
  exact Ok_s ⟨a, rfl, b⟩
theorem e_num {T M M0 : gM} {x : hS} {lo hi : Int32} {l h : Int} {β : Type} {f : Int32 × gM → Option β} {Q : β → Prop} (R : he_R T M x) (F : y_Fr he_A M0 M) (hl : lo.toInt = l) (hh : hi.toInt = h)
    (bad : ∀ er M', hs_num T x.1 l h = .inl er → y_Fr he_A M0 M' → he_Y M' er → Ok (f (0, M')) Q)
    (go : ∀ y M', hs_num T x.1 l h = .inr y → y_Fr he_A M0 M' → he_R T M' (y.1, x.2) → M'.2.1 175 10 = y.2 → (l ≤ y.2.toInt ∧ y.2.toInt ≤ h) → Ok (f (1, M')) Q) : Ok ((F_X12_numberHere (some 175) lo hi M).bind f) Q := by
  subst hl
  subst hh
  obtain ⟨e1, e2, e3⟩ := he_x R
  obtain ⟨⟨⟨eL, eD⟩, _, ede⟩, ⟨_, ev⟩, ⟨eo, _⟩, _⟩ := n_T R.2.1.1 R.2.1.2
  have xi : (Int32.ofNat x.1).toInt = (x.1 : Int) := i_ofNat (by omega)
  rw [R_numberHere R.1.1 R.1.2 e1.symm, Option.bind_some]
  unfold hs_num at bad go
  by_cases cD : n_D T x.1 = true
  · rw [if_pos cD] at bad go
    rw [if_pos (show n_D M x.1 = true by rw [eD]; exact cD)]
    obtain ⟨H2, f2⟩ := n_an_set (p := x.1) R.1.1 e2
    have F2 : y_Fr he_A M (n_an M x.1) := y_fl (by decide) f2
    have d1 := n_de_le (M := M) (p := x.1) e2
    have w9 : (n_an M x.1).2.1 175 9 = 0 := by
      unfold n_an
      rw [mI_ne (Or.inr (by decide)), n_atk (by decide)]
      exact R.2.2.1.2
    by_cases cO : n_ok T x.1 lo.toInt hi.toInt = true
    · rw [if_pos cO] at bad go
      rw [if_pos (show n_ok M x.1 lo.toInt hi.toInt = true by rw [eo]; exact cO)]
      have x2 : n_x (n_an M x.1) = n_de M x.1 := by
        unfold n_x n_an
        rw [mI_ne (Or.inr (by decide)), n_at8, i_ofNat (by omega)]
        omega
      have s2 := n_fs f2 (by decide)
      refine go _ _ rfl (y_tr F F2) ⟨⟨H2, by rw [x2, s2]; exact d1.2⟩, ⟨(funext (fun q => y_fa (i := 176) f2 (by decide) (by decide) q)).trans R.2.1.1, s2.trans R.2.1.2⟩, ⟨?_, w9⟩, ?_⟩ ?_ (of_decide_eq_true cO).2
      · rw [x2, ede]
        exact (z_no_s cD).symm
      · rw [← R.2.2.2]
        exact funext (fun q => y_fa (i := 181) f2 (by decide) (by decide) q)
      · show (n_an M x.1).2.1 175 10 = n_v T x.1
        rw [← ev]
        exact y_mI1
    · rw [if_neg cO] at bad go
      rw [if_neg (show ¬ n_ok M x.1 lo.toInt hi.toInt = true by rw [eo]; exact cO)]
      obtain ⟨a, b⟩ := he_fail (k := 1) (p := Int32.ofNat x.1) (d := 1) H2 (y_tr F F2) w9 xi (by omega) rfl (by decide)
      exact bad _ _ rfl a b
  · rw [if_neg cD] at bad go
    rw [if_neg (show ¬ n_D M x.1 = true by rw [eD]; exact cD)]
    obtain ⟨f1, R1⟩ := he_at R e2
    obtain ⟨a, b⟩ := he_fail (k := 0) (p := Int32.ofNat x.1) (d := 0) R1.1.1 (y_tr F f1) R1.2.2.1.2 xi (by omega) rfl (by decide)
    exact bad _ _ rfl a b
/-- a cell set -/
theorem e_st {T M M0 : gM} {x : hS} {j v : Int32} {k : Nat} {β : Type} {f : gM → Option β} {Q : β → Prop} (R : he_R T M x) (F : y_Fr he_A M0 M) (hj : j.toInt = (k : Int)) (hk : k < 157) (hr : y_rg (y_tS k) v) (g : ∀ M', y_Fr he_A M0 M' → he_R T M' (x.1, hs_set x.2 k v) → M'.2.1 175 10 = M.2.1 175 10 → Ok (f M') Q) : Ok ((sI M (some 181) j v).bind f) Q := by
  refine y_sI (S := 2 ^ 46) R.1.1 (i := 181) (n := 157) rfl (by omega) (by omega) (by rw [i_cl hj]; exact hr) (by decide) (fun M' H' f' e' o' l' => ?_)
  rw [i_cl hj] at e' o'
  have x' := n_fx f' (by decide)
  have s' := n_fs f' (by decide)
  refine g M' (y_tr F (y_fl (by decide) f')) ⟨⟨H', by rw [x', s']; exact R.1.2⟩, ⟨(funext (fun q => o' 176 q (Or.inl (by decide)))).trans R.2.1.1, s'.trans R.2.1.2⟩, ⟨by rw [x']; exact R.2.2.1.1, (o' 175 9 (Or.inl (by decide))).trans R.2.2.1.2⟩, ?_⟩ (o' 175 10 (Or.inl (by decide)))
  funext a
  show M'.2.1 181 a = if a = k then v else x.2 a
  by_cases c : a = k
  · rw [if_pos c, c]
    exact e'
  · rw [if_neg c, o' 181 a (Or.inr c), R.2.2.2]
theorem e_rd {T M : gM} {x : hS} {j : Int32} {k : Nat} {β : Type} {f : Int32 → Option β} {Q : β → Prop} (R : he_R T M x) (hj : j.toInt = (k : Int)) (hk : k < 157) (g : Ok (f (x.2 k)) Q) : Ok ((aI 20 M (some 181) j).bind f) Q := by
  rw [e_aI R.1.1 (t := 20) (i := 181) (n := 157) rfl (by decide) (by omega) (by omega), Option.bind_some, i_cl hj, R.2.2.2]
  exact g
theorem e_r7 {T M : gM} {x : hS} {β : Type} {f : Option Nat → Option β} {Q : β → Prop} (R : he_R T M x) (g : Ok (f (some 181)) Q) : Ok ((gR 12 M (some 175) 7).bind f) Q := by
  rw [e_gR R.1.1 (w := 181) rfl (by decide), Option.bind_some]
  exact g
theorem e_o {T M : gM} {x : hS} {β : Type} {f : Nat → Option β} {Q : β → Prop} (R : he_R T M x) (g : Ok (f 175) Q) : Ok ((gO 12 M (some 175)).bind f) Q := by
  rw [e_gO R.1.1, Option.bind_some]
  exact g
theorem e_cx {T M : gM} {x : hS} {β : Type} {f : Unit → Option β} {Q : β → Prop} (R : he_R T M x) (g : Ok (f ()) Q) : Ok ((gC 12 M 175).bind f) Q := by
  rw [e_gC R.1.1, Option.bind_some]
  exact g
theorem e_i {T M : gM} {x : hS} {k : Nat} {v : Int32} {β : Type} {f : Int32 → Option β} {Q : β → Prop} (R : he_R T M x) (e : M.2.1 175 k = v) (g : Ok (f v) Q) : Ok ((gI 12 M (some 175) k).bind f) Q := by
  rw [e_gI R.1.1, Option.bind_some, e]
  exact g
/-- a number read into a cell -/
theorem e_cell {T M M0 : gM} {x : hS} {j lo hi : Int32} {l h : Int} {k : Nat} {β : Type} {f : Int32 × gM → Option β} {Q : β → Prop} (R : he_R T M x) (F : y_Fr he_A M0 M) (hj : j.toInt = (k : Int)) (hk : k < 157) (hl : lo.toInt = l) (hh : hi.toInt = h) (hr : ∀ v : Int32, l ≤ v.toInt → v.toInt ≤ h → y_rg (y_tS k) v)
    (bad : ∀ er M', hs_num T x.1 l h = .inl er → y_Fr he_A M0 M' → he_Y M' er → Ok (f (0, M')) Q)
    (go : ∀ y M', hs_num T x.1 l h = .inr y → y_Fr he_A M0 M' → he_R T M' (y.1, hs_set x.2 k y.2) → (l ≤ y.2.toInt ∧ y.2.toInt ≤ h) → Ok (f (1, M')) Q) : Ok ((F_X12_cellHere (some 175) j lo hi M).bind f) Q := by
  refine Ok_b (P := fun r => (∃ er, hs_num T x.1 l h = .inl er ∧ r.1 = 0 ∧ y_Fr he_A M0 r.2 ∧ he_Y r.2 er) ∨ (∃ y, hs_num T x.1 l h = .inr y ∧ r.1 = 1 ∧ y_Fr he_A M0 r.2 ∧ he_R T r.2 (y.1, hs_set x.2 k y.2) ∧ (l ≤ y.2.toInt ∧ y.2.toInt ≤ h))) ?_ (fun r z => ?_)
  · delta F_X12_cellHere F_X12_cellHere_b0
    refine e_o R ?_
    refine e_num R F hl hh (fun er M' hit F' Y => ?_) (fun y M' hit F' R' v r => ?_)
    · dsimp only
      rw [if_pos rfl]
      exact Ok_s (Or.inl ⟨er, hit, rfl, F', Y⟩)
    · dsimp only
      rw [if_neg (by decide)]
      refine e_r7 R' (e_i R' v ?_)
      refine e_st R' F' hj hk (hr _ r.1 r.2) (fun M2 F2 R2 _ => ?_)
      exact Ok_s (Or.inr ⟨y, hit, rfl, F2, R2, r⟩)
  · obtain ⟨a, b⟩ := r
    rcases z with ⟨er, z1, z2, z3, z4⟩ | ⟨y, z1, z2, z3, z4, z5⟩
    · dsimp only at z2
      subst z2
      exact bad er _ z1 z3 z4
    · dsimp only at z2
      subst z2
      exact go y _ z1 z3 z4 z5
theorem he_q1 {T M M0 : gM} {x : hS} (F : y_Fr he_A M0 M) (R : he_R T M x) : Ok (some ((1 : Int32), M)) (he_Q T (.inr x) M0) := Ok_s ⟨F, rfl, R⟩
theorem he_q0 {T M M0 : gM} {er : Nat} (F : y_Fr he_A M0 M) (Y : he_Y M er) : Ok (some ((0 : Int32), M)) (he_Q T (.inl er) M0) := Ok_s ⟨F, rfl, Y⟩
/-! clauses -/
theorem k_word_L {T : gM} {p : Nat} (h : 261 ≤ k_kind T p) : n_L T p = true := by
  by_cases c : n_L T p = true
  · exact c
  · have := k_nl_r c
    omega
theorem E_isHouseHere {T M : gM} {x : hS} {l1 : Int32} (S : he_S T M x) (hk : k_kind T x.1 = 275) (hl : l1.toInt = (x.1 : Int)) : Ok (F_X12_isHouseHere (some 175) l1 M) (he_Q T (if x.2 0 ≤ 0 then hs_house T (k_go T x.1, x.2) else .inl (1 + 8 * x.1 + 4)) M) := by
  obtain ⟨e1, e2, e3⟩ := he_x S.1
  delta F_X12_isHouseHere F_X12_isHouseHere_b0
  refine e_r7 S.1 (e_rd S.1 (k := 0) rfl (by decide) ?_)
  by_cases c : x.2 0 ≤ 0
  · rw [if_pos c, if_pos c]
    refine e_o S.1 (e_pass S (k_word_L (by omega)) (y_rf0 _ _) (fun M4 F4 R4 => ?_))
    refine e_cx R4 ?_
    unfold hs_house
    refine e_cell R4 F4 (k := 5) (l := 1) (h := 20) rfl (by decide) rfl rfl (fun v _ _ => h_tSf rfl) (fun er M7 hit F7 Y => ?_) (fun y M7 hit F7 R7 r => ?_)
    · dsimp only at hit ⊢
      rw [hit, hs_bl, if_pos rfl]
      exact he_q0 F7 Y
    · dsimp only at hit ⊢
      rw [hit, hs_br, if_neg (by decide)]
      refine e_r7 R7 ?_
      refine e_st R7 F7 (k := 0) rfl (by decide) (h_tSf rfl) (fun M9 F9 R9 _ => ?_)
      exact he_q1 F9 R9
  · rw [if_neg c, if_neg c]
    refine e_o S.1 ?_
    exact e_fails S.1.1.1 (y_rf0 _ _) S.1.2.2.1.2 hl (by omega) rfl (by decide)
theorem E_isThingHere {T M : gM} {x : hS} {l1 : Int32} (S : he_S T M x) (hk : k_kind T x.1 = 262) (hl : l1.toInt = (x.1 : Int)) : Ok (F_X12_isThingHere (some 175) l1 M) (he_Q T (if x.2 1 = 7 then .inl (1 + 8 * x.1 + 4) else hs_thing T (k_go T x.1, x.2)) M) := by
  obtain ⟨e1, e2, e3⟩ := he_x S.1
  have rg := S.1.1.1.2.1 181 (by decide) 1
  have rg1 : 0 ≤ (M.2.1 181 1).toInt := rg.1
  have rg2 : (M.2.1 181 1).toInt ≤ 7 := rg.2
  rw [S.1.2.2.2] at rg1 rg2
  delta F_X12_isThingHere F_X12_isThingHere_b0 F_X12_isThingHere_b71
  refine e_r7 S.1 (e_rd S.1 (k := 1) rfl (by decide) ?_)
  by_cases c : x.2 1 = 7
  · rw [if_pos c, if_pos c]
    refine e_o S.1 ?_
    exact e_fails S.1.1.1 (y_rf0 _ _) S.1.2.2.1.2 hl (by omega) rfl (by decide)
  rw [if_neg c, if_neg c]
  have c' : (x.2 1).toInt ≠ 7 := fun h => c (Int32.toInt_inj.mp (by rw [h]; rfl))
  obtain ⟨n, en⟩ : ∃ n : Nat, (x.2 1).toInt = (n : Int) := ⟨(x.2 1).toInt.toNat, by omega⟩
  have hnn : hs_n x.2 = n := i_cl en
  have a1 := i_mulL (c := (4 : Int32)) (x := x.2 1) (n := 4) rfl (by omega) (by omega)
  have a2 := i_cadd (c := (10 : Int32)) (x := (4 : Int32) * x.2 1) (n := 10) rfl (by omega) (by omega)
  have a3 := i_addc (x := (10 : Int32) + (4 : Int32) * x.2 1) (c := (1 : Int32)) (n := 1) rfl (by omega) (by omega)
  have a4 := i_addc (x := (10 : Int32) + (4 : Int32) * x.2 1) (c := (2 : Int32)) (n := 2) rfl (by omega) (by omega)
  have a5 := i_addc (x := (10 : Int32) + (4 : Int32) * x.2 1) (c := (3 : Int32)) (n := 3) rfl (by omega) (by omega)
  refine e_o S.1 (e_pass S (k_word_L (by omega)) (y_rf0 _ _) (fun M4 F4 R4 => ?_))
  refine e_r7 R4 (e_rd R4 (k := 1) rfl (by decide) (e_cx R4 ?_))
  dsimp only
  unfold hs_thing
  dsimp only
  rw [hnn]
  refine e_cell R4 F4 (k := 10 + 4 * n) (l := 0) (h := 9) (by omega) (by omega) rfl rfl (fun v _ _ => h_tSf (h_tSn (by omega) (by omega) (by omega))) (fun er M7 hit F7 Y => ?_) (fun y3 M9 hit F9 R9 r3 => ?_)
  · dsimp only at hit ⊢
    rw [hit, hs_bl, if_pos rfl]
    exact he_q0 F7 Y
  dsimp only at hit ⊢
  rw [hit, hs_br, if_neg (by decide)]
  refine e_cx R9 ?_
  refine e_cell R9 F9 (k := 11 + 4 * n) (l := 0) (h := 20) (by omega) (by omega) rfl rfl (fun v b1 b2 => h_in (h_tS11 (l := n) (by omega) rfl) (by omega)) (fun er M7 hit F7 Y => ?_) (fun y7 M12 hit F12 R12 r7 => ?_)
  · dsimp only at hit ⊢
    rw [hit, hs_bl, if_pos rfl]
    exact he_q0 F7 Y
  dsimp only at hit ⊢
  rw [hit, hs_br, if_neg (by decide)]
  refine e_cx R12 ?_
  refine e_cell R12 F12 (k := 12 + 4 * n) (l := 0) (h := 99) (by omega) (by omega) rfl rfl (fun v _ _ => h_tSf (h_tSn (by omega) (by omega) (by omega))) (fun er M7 hit F7 Y => ?_) (fun y11 M15 hit F15 R15 r11 => ?_)
  · dsimp only at hit ⊢
    rw [hit, hs_bl, if_pos rfl]
    exact he_q0 F7 Y
  dsimp only at hit ⊢
  rw [hit, hs_br, if_neg (by decide)]
  refine e_r7 R15 ?_
  refine e_st R15 F15 (k := 13 + 4 * n) (by omega) (by omega) (h_tSf (h_tSn (by omega) (by omega) (by omega))) (fun M17 F17 R17 _ => ?_)
  refine e_r7 R17 (e_rd R17 (k := 1) rfl (by decide) ?_)
  have e1 : hs_set (hs_set (hs_set (hs_set x.2 (10 + 4 * n) y3.2) (11 + 4 * n) y7.2) (12 + 4 * n) y11.2) (13 + 4 * n) (-1) 1 = x.2 1 := by rw [hs_sn (by omega), hs_sn (by omega), hs_sn (by omega), hs_sn (by omega)]
  dsimp only
  rw [e1]
  have a6 := i_addc (x := x.2 1) (c := (1 : Int32)) (n := 1) rfl (by omega) (by omega)
  refine e_st R17 F17 (k := 1) rfl (by decide) (h_in (lo := 0) (hi := 7) rfl (by omega)) (fun M20 F20 R20 _ => ?_)
  exact he_q1 F20 R20
-- 7w.8i.href2
/-- cells of a new HEIR: what they know of THINGS, from the k-th on -/
def hs_nf (σ : Nat → Int32) (h k : Nat) : Nat → Int32 := fun j => if 59 + 14 * h + 2 * k ≤ j ∧ j < 73 + 14 * h then (if (j - (59 + 14 * h)) % 2 = 0 then -1 else 0) else σ j
theorem E_isHeirHere_L77 {T M0 : gM} {n : Nat} (hn : n ≤ 6) {l2 : Int32} (h2 : l2.toInt = (n : Int)) : ∀ (m k : Nat) {l3 : Int32} {M : gM} {x : hS}, he_R T M x → y_Fr he_A M0 M → (x.2 2).toInt = (n : Int) → l3.toInt = (k : Int) → k ≤ 7 → 7 - k < m → Ok (F_X12_isHeirHere_L77 m (some 175) l2 l3 M) (he_Q T (.inr (x.1, hs_set (hs_nf x.2 n k) 2 (x.2 2 + 1))) M0) := by
  intro m
  induction m with
  | zero => intro k l3 M x R F h h3 h4 h5; omega
  | succ m ih =>
    intro k l3 M x R F h h3 h4 h5
    show Ok (F_X12_isHeirHere_b77 (F_X12_isHeirHere_L77 m) (some 175) l2 l3 M) _
    have z7 : (7 : Int32).toInt = 7 := rfl
    delta F_X12_isHeirHere_b77
    refine Ok_i (fun c => ?_) (fun c => ?_)
    · have c' := i_le c
      refine e_r7 R (e_rd R (k := 2) rfl (by decide) ?_)
      have a6 := i_addc (x := x.2 2) (c := (1 : Int32)) (n := 1) rfl (by omega) (by omega)
      refine e_st R F (k := 2) rfl (by decide) (h_in (lo := 0) (hi := 7) rfl (by omega)) (fun M3 F3 R3 _ => ?_)
      have e : hs_nf x.2 n k = x.2 := by
        funext j
        unfold hs_nf
        rw [if_neg (by omega)]
      rw [e]
      exact he_q1 F3 R3
    · have c' := i_nle c
      have a1 := i_mulL (c := (14 : Int32)) (x := l2) (n := 14) rfl (by omega) (by omega)
      have a2 := i_cadd (c := (59 : Int32)) (x := (14 : Int32) * l2) (n := 59) rfl (by omega) (by omega)
      have a3 := i_mulL (c := (2 : Int32)) (x := l3) (n := 2) rfl (by omega) (by omega)
      have a4 := i_add (x := (59 : Int32) + (14 : Int32) * l2) (y := (2 : Int32) * l3) (by omega) (by omega)
      have a5 := i_addc (x := ((59 : Int32) + (14 : Int32) * l2) + (2 : Int32) * l3) (c := (1 : Int32)) (n := 1) rfl (by omega) (by omega)
      refine e_r7 R ?_
      refine e_st R F (k := 59 + 14 * n + 2 * k) (by omega) (by omega) (h_tSf (h_tSn (by omega) (by omega) (by omega))) (fun M5 F5 R5 _ => ?_)
      refine e_r7 R5 ?_
      refine e_st R5 F5 (k := 59 + 14 * n + 2 * k + 1) (by omega) (by omega) (h_tSf (h_tSn (by omega) (by omega) (by omega))) (fun M7 F7 R7 _ => ?_)
      have e2 : hs_set (hs_set x.2 (59 + 14 * n + 2 * k) (-1)) (59 + 14 * n + 2 * k + 1) 0 2 = x.2 2 := by rw [hs_sn (by omega), hs_sn (by omega)]
      have := ih (k + 1) (l3 := l3 + 1) R7 F7 (by dsimp only; rw [e2]; exact h) (by rw [n_inc h3 (by omega), i_ofNat (by omega)]) (by omega) (by omega)
      dsimp only at this
      rw [e2] at this
      have e : hs_nf (hs_set (hs_set x.2 (59 + 14 * n + 2 * k) (-1)) (59 + 14 * n + 2 * k + 1) 0) n (k + 1) = hs_nf x.2 n k := by
        funext j
        unfold hs_nf
        by_cases c1 : 59 + 14 * n + 2 * (k + 1) ≤ j ∧ j < 73 + 14 * n
        · rw [if_pos c1, if_pos (show 59 + 14 * n + 2 * k ≤ j ∧ j < 73 + 14 * n by omega)]
        · rw [if_neg c1]
          by_cases c2 : j = 59 + 14 * n + 2 * k
          · subst c2
            rw [hs_sn (by omega), hs_se, if_pos (by omega), if_pos (by omega)]
          · by_cases c3 : j = 59 + 14 * n + 2 * k + 1
            · subst c3
              rw [hs_se, if_pos (by omega), if_neg (by omega)]
            · rw [hs_sn c3, hs_sn c2, if_neg (by omega)]
      rw [e] at this
      exact this
theorem hs_nf0 {σ : Nat → Int32} {h : Nat} : hs_nf σ h 0 = hs_new σ h := rfl
theorem E_isHeirHere {T M : gM} {x : hS} {l1 : Int32} (S : he_S T M x) (hk : k_kind T x.1 = 261) (hl : l1.toInt = (x.1 : Int)) : Ok (F_X12_isHeirHere (some 175) l1 M) (he_Q T (if x.2 2 = 7 then .inl (1 + 8 * x.1 + 4) else hs_heir T (k_go T x.1, x.2)) M) := by
  obtain ⟨e1, e2, e3⟩ := he_x S.1
  have rg := S.1.1.1.2.1 181 (by decide) 2
  have rg1 : 0 ≤ (M.2.1 181 2).toInt := rg.1
  have rg2 : (M.2.1 181 2).toInt ≤ 7 := rg.2
  rw [S.1.2.2.2] at rg1 rg2
  delta F_X12_isHeirHere F_X12_isHeirHere_b0 F_X12_isHeirHere_b63
  refine e_r7 S.1 (e_rd S.1 (k := 2) rfl (by decide) ?_)
  by_cases c : x.2 2 = 7
  · rw [if_pos c, if_pos c]
    refine e_o S.1 ?_
    exact e_fails S.1.1.1 (y_rf0 _ _) S.1.2.2.1.2 hl (by omega) rfl (by decide)
  rw [if_neg c, if_neg c]
  have c' : (x.2 2).toInt ≠ 7 := fun h => c (Int32.toInt_inj.mp (by rw [h]; rfl))
  obtain ⟨n, en⟩ : ∃ n : Nat, (x.2 2).toInt = (n : Int) := ⟨(x.2 2).toInt.toNat, by omega⟩
  have hmm : hs_m x.2 = n := i_cl en
  have a1 := i_mulL (c := (2 : Int32)) (x := x.2 2) (n := 2) rfl (by omega) (by omega)
  have a2 := i_cadd (c := (38 : Int32)) (x := (2 : Int32) * x.2 2) (n := 38) rfl (by omega) (by omega)
  have a3 := i_addc (x := (38 : Int32) + (2 : Int32) * x.2 2) (c := (1 : Int32)) (n := 1) rfl (by omega) (by omega)
  have a4 := i_cadd (c := (52 : Int32)) (x := x.2 2) (n := 52) rfl (by omega) (by omega)
  refine e_o S.1 (e_pass S (k_word_L (by omega)) (y_rf0 _ _) (fun M4 F4 R4 => ?_))
  refine e_r7 R4 (e_rd R4 (k := 2) rfl (by decide) (e_cx R4 ?_))
  dsimp only
  unfold hs_heir
  dsimp only
  rw [hmm]
  refine e_cell R4 F4 (k := 38 + 2 * n) (l := 0) (h := 99) (by omega) (by omega) rfl rfl (fun v b1 b2 => h_in (h_tS38 (l := n) (by omega) rfl) (by omega)) (fun er M7 hit F7 Y => ?_) (fun y3 M9 hit F9 R9 r3 => ?_)
  · dsimp only at hit ⊢
    rw [hit, hs_bl, if_pos rfl]
    exact he_q0 F7 Y
  dsimp only at hit ⊢
  rw [hit, hs_br, if_neg (by decide)]
  refine e_cx R9 ?_
  refine e_cell R9 F9 (k := 39 + 2 * n) (l := 0) (h := 100) (by omega) (by omega) rfl rfl (fun v _ _ => h_tSf (h_tSn (by omega) (by omega) (by omega))) (fun er M7 hit F7 Y => ?_) (fun y7 M12 hit F12 R12 r7 => ?_)
  · dsimp only at hit ⊢
    rw [hit, hs_bl, if_pos rfl]
    exact he_q0 F7 Y
  dsimp only at hit ⊢
  rw [hit, hs_br, if_neg (by decide)]
  refine e_r7 R12 ?_
  refine e_st R12 F12 (k := 52 + n) (by omega) (by omega) (h_tSf (h_tSn (by omega) (by omega) (by omega))) (fun M14 F14 R14 _ => ?_)
  have e2 : hs_set (hs_set (hs_set x.2 (38 + 2 * n) y3.2) (39 + 2 * n) y7.2) (52 + n) 0 2 = x.2 2 := by rw [hs_sn (by omega), hs_sn (by omega), hs_sn (by omega)]
  have := E_isHeirHere_L77 (T := T) (M0 := M) (n := n) (by omega) en g_fuel 0 (l3 := 0) R14 F14 (by dsimp only; rw [e2]; exact en) rfl (by decide) (by decide)
  dsimp only at this
  rw [e2, hs_nf0] at this
  exact this
theorem E_isSongHere {T M : gM} {x : hS} (S : he_S T M x) (hk : k_kind T x.1 = 268) : Ok (F_X12_isSongHere (some 175) M) (he_Q T (hs_song T (k_go T x.1, x.2)) M) := by
  have rg := S.1.1.1.2.1 181 (by decide) 1
  have rg1 : 0 ≤ (M.2.1 181 1).toInt := rg.1
  have rg2 : (M.2.1 181 1).toInt ≤ 7 := rg.2
  rw [S.1.2.2.2] at rg1 rg2
  delta F_X12_isSongHere F_X12_isSongHere_b0
  refine e_o S.1 (e_pass S (k_word_L (by omega)) (y_rf0 _ _) (fun M4 F4 R4 => ?_))
  refine e_r7 R4 (e_rd R4 (k := 1) rfl (by decide) (e_cx R4 ?_))
  dsimp only
  unfold hs_song
  have hh : (x.2 1 - (1 : Int32)).toInt = (x.2 1).toInt - 1 := i_subc rfl (by omega) (by omega)
  refine e_num R4 F4 (l := 0) rfl hh (fun er M7 hit F7 Y => ?_) (fun y M7 hit F7 R7 v r => ?_)
  · dsimp only at hit ⊢
    rw [hit, hs_bl, if_pos rfl]
    exact he_q0 F7 Y
  dsimp only at hit ⊢
  rw [hit, hs_br, if_neg (by decide)]
  refine e_r7 R7 (e_rd R7 (k := 7) rfl (by decide) (e_i R7 v ?_))
  refine e_st R7 F7 (k := 7) rfl (by decide) (h_tSf rfl) (fun M11 F11 R11 _ => ?_)
  exact he_q1 F11 R11
theorem E_isHateHere {T M : gM} {x : hS} (S : he_S T M x) (hk : k_kind T x.1 = 267) : Ok (F_X12_isHateHere (some 175) M) (he_Q T (hs_hate T (k_go T x.1, x.2)) M) := by
  have rg := S.1.1.1.2.1 181 (by decide) 2
  have rg1 : 0 ≤ (M.2.1 181 2).toInt := rg.1
  have rg2 : (M.2.1 181 2).toInt ≤ 7 := rg.2
  rw [S.1.2.2.2] at rg1 rg2
  delta F_X12_isHateHere F_X12_isHateHere_b0
  refine e_o S.1 (e_pass S (k_word_L (by omega)) (y_rf0 _ _) (fun M4 F4 R4 => ?_))
  refine e_r7 R4 (e_rd R4 (k := 2) rfl (by decide) (e_cx R4 ?_))
  dsimp only
  unfold hs_hate
  have hh : (x.2 2 - (1 : Int32)).toInt = (x.2 2).toInt - 1 := i_subc rfl (by omega) (by omega)
  refine e_num R4 F4 (l := 0) rfl hh (fun er M7 hit F7 Y => ?_) (fun y M7 hit F7 R7 v r => ?_)
  · dsimp only at hit ⊢
    rw [hit, hs_bl, if_pos rfl]
    exact he_q0 F7 Y
  dsimp only at hit ⊢
  rw [hit, hs_br, if_neg (by decide)]
  refine e_r7 R7 (e_rd R7 (k := 6) rfl (by decide) (e_i R7 v ?_))
  refine e_st R7 F7 (k := 6) rfl (by decide) (h_tSf rfl) (fun M11 F11 R11 _ => ?_)
  exact he_q1 F11 R11
theorem R_isOf {M : gM} {a b : Int32} : F_X12_isOf a b M = some (if hs_is a b = 1 then 1 else 0) := by
  delta F_X12_isOf F_X12_isOf_b0
  unfold hs_is
  by_cases c : ((a >>> (b &&& 31)) &&& (1 : Int32)) = (1 : Int32)
  · rw [if_pos c, if_pos c]
  · rw [if_neg c, if_neg c]
theorem E_areCousinsHere {T M : gM} {x : hS} {l1 : Int32} (S : he_S T M x) (hk : k_kind T x.1 = 276) (hl : l1.toInt = (x.1 : Int)) (h3 : 0 ≤ (x.2 3).toInt ∧ (x.2 3).toInt ≤ 10) : Ok (F_X12_areCousinsHere (some 175) l1 M) (he_Q T (if x.2 3 = 10 then .inl (1 + 8 * x.1 + 4) else hs_cous T (k_go T x.1, x.2)) M) := by
  obtain ⟨e1, e2, e3⟩ := he_x S.1
  have rg := S.1.1.1.2.1 181 (by decide) 2
  have rg1 : 0 ≤ (M.2.1 181 2).toInt := rg.1
  have rg2 : (M.2.1 181 2).toInt ≤ 7 := rg.2
  rw [S.1.2.2.2] at rg1 rg2
  delta F_X12_areCousinsHere F_X12_areCousinsHere_b0 F_X12_areCousinsHere_b100
  refine e_r7 S.1 (e_rd S.1 (k := 3) rfl (by decide) ?_)
  by_cases c : x.2 3 = 10
  · rw [if_pos c, if_pos c]
    refine e_o S.1 ?_
    exact e_fails S.1.1.1 (y_rf0 _ _) S.1.2.2.1.2 hl (by omega) rfl (by decide)
  rw [if_neg c, if_neg c]
  refine e_o S.1 (e_pass S (k_word_L (by omega)) (y_rf0 _ _) (fun M4 F4 R4 => ?_))
  refine e_r7 R4 (e_rd R4 (k := 2) rfl (by decide) (e_cx R4 ?_))
  dsimp only
  unfold hs_cous
  have hh : (x.2 2 - (1 : Int32)).toInt = (x.2 2).toInt - 1 := i_subc rfl (by omega) (by omega)
  refine e_num R4 F4 (l := 0) rfl hh (fun er M7 hit F7 Y => ?_) (fun y5 M9 hit F9 R9 v9 r9 => ?_)
  · dsimp only at hit ⊢
    rw [hit, hs_bl, if_pos rfl]
    exact he_q0 F7 Y
  dsimp only at hit ⊢
  rw [hit, hs_br, if_neg (by decide)]
  refine e_i R9 v9 (e_cx R9 ?_)
  refine e_see R9 F9 (fun M13 F13 S13 => ?_)
  dsimp only
  have R13 := S13.1
  have p13 := he_x R13
  have v14 : M13.2.1 175 8 = Int32.ofNat y5.1 := by
    have h := n_x1 R13.1.1
    rw [S13.2] at h
    exact i_of h.1 (by omega)
  refine e_i R13 v14 (e_r7 R13 (e_rd R13 (k := 2) rfl (by decide) (e_cx R13 ?_)))
  refine e_num R13 F13 (l := 0) rfl hh (fun er M7 hit F7 Y => ?_) (fun y14 M19 hit F19 R19 v19 r19 => ?_)
  · dsimp only at hit ⊢
    rw [hit, hs_bl, if_pos rfl]
    exact he_q0 F7 Y
  dsimp only at hit ⊢
  rw [hit, hs_br, if_neg (by decide)]
  dsimp only at p13
  obtain ⟨a, ea⟩ : ∃ a : Nat, y5.2.toInt = (a : Int) := ⟨y5.2.toInt.toNat, by omega⟩
  obtain ⟨b, eb⟩ : ∃ b : Nat, y14.2.toInt = (b : Int) := ⟨y14.2.toInt.toNat, by omega⟩
  rw [i_cl ea, i_cl eb]
  have xi : (Int32.ofNat y5.1).toInt = (y5.1 : Int) := i_ofNat (by omega)
  have bad : Ok ((gO 12 M19 (some 175)).bind fun i1 => (F_X12_fails (some i1) (1 : Int32) (Int32.ofNat y5.1) M19).bind fun (v2, M3) => if v2 = 0 ∨ v2 = 1 then some (v2, M3) else none) (he_Q T (.inl (1 + 8 * y5.1 + 1)) M) := e_o R19 (e_fails R19.1.1 F19 R19.2.2.1.2 xi (by omega) rfl (by decide))
  refine e_i R19 v19 ?_
  by_cases cab : y14.2 = y5.2
  · rw [if_pos (show y5.2 = y14.2 ∨ hs_is (x.2 (52 + a)) y14.2 = 1 from Or.inl cab.symm)]
    exact Ok_t cab bad
  refine Ok_e cab ?_
  have nab : a ≠ b := fun h => cab (Int32.toInt_inj.mp (by omega))
  have a4 := i_cadd (c := (52 : Int32)) (x := y5.2) (n := 52) rfl (by omega) (by omega)
  have a5 := i_cadd (c := (52 : Int32)) (x := y14.2) (n := 52) rfl (by omega) (by omega)
  refine e_r7 R19 (e_rd R19 (k := 52 + a) (by omega) (by omega) (e_i R19 v19 ?_))
  dsimp only
  rw [R_isOf, Option.bind_some]
  by_cases cis : hs_is (x.2 (52 + a)) y14.2 = 1
  · rw [if_pos cis, if_pos (show y5.2 = y14.2 ∨ hs_is (x.2 (52 + a)) y14.2 = 1 from Or.inr cis)]
    exact Ok_e (by decide) bad
  rw [if_neg cis, if_neg (show ¬ (y5.2 = y14.2 ∨ hs_is (x.2 (52 + a)) y14.2 = 1) from fun h => h.elim (fun e => cab e.symm) cis)]
  refine Ok_t rfl ?_
  refine e_r7 R19 (e_rd R19 (k := 52 + a) (by omega) (by omega) (e_i R19 v19 ?_))
  refine e_st R19 F19 (k := 52 + a) (by omega) (by omega) (h_tSf (h_tSn (by omega) (by omega) (by omega))) (fun M28 F28 R28 t28 => ?_)
  dsimp only at R28 ⊢
  refine e_r7 R28 (e_i R28 (t28.trans v19) (e_rd R28 (k := 52 + b) (by omega) (by omega) ?_))
  dsimp only
  rw [hs_sn (show 52 + b ≠ 52 + a by omega)]
  refine e_st R28 F28 (k := 52 + b) (by omega) (by omega) (h_tSf (h_tSn (by omega) (by omega) (by omega))) (fun M32 F32 R32 t32 => ?_)
  refine e_r7 R32 (e_rd R32 (k := 3) rfl (by decide) ?_)
  dsimp only at R32 ⊢
  rw [hs_sn (show (3 : Nat) ≠ 52 + b by omega), hs_sn (show (3 : Nat) ≠ 52 + a by omega)]
  refine e_st R32 F32 (k := 3) rfl (by decide) (h_tSf rfl) (fun M35 F35 R35 _ => ?_)
  exact he_q1 F35 R35
theorem E_isKnownHere {T M : gM} {x : hS} (S : he_S T M x) (hk : k_kind T x.1 = 277) : Ok (F_X12_isKnownHere (some 175) M) (he_Q T (hs_know T (k_go T x.1, x.2)) M) := by
  have rg := S.1.1.1.2.1 181 (by decide) 2
  have rg1 : 0 ≤ (M.2.1 181 2).toInt := rg.1
  have rg2 : (M.2.1 181 2).toInt ≤ 7 := rg.2
  have sg := S.1.1.1.2.1 181 (by decide) 1
  have sg1 : 0 ≤ (M.2.1 181 1).toInt := sg.1
  have sg2 : (M.2.1 181 1).toInt ≤ 7 := sg.2
  rw [S.1.2.2.2] at rg1 rg2 sg1 sg2
  delta F_X12_isKnownHere F_X12_isKnownHere_b0 F_X12_isKnownHere_b88
  refine e_o S.1 (e_pass S (k_word_L (by omega)) (y_rf0 _ _) (fun M4 F4 R4 => ?_))
  refine e_r7 R4 (e_rd R4 (k := 2) rfl (by decide) (e_cx R4 ?_))
  dsimp only
  unfold hs_know
  have hh1 : (x.2 1 - (1 : Int32)).toInt = (x.2 1).toInt - 1 := i_subc rfl (by omega) (by omega)
  have hh2 : (x.2 2 - (1 : Int32)).toInt = (x.2 2).toInt - 1 := i_subc rfl (by omega) (by omega)
  refine e_num R4 F4 (l := 0) rfl hh2 (fun er M7 hit F7 Y => ?_) (fun y8 M7 hit F7 R7 v8 r8 => ?_)
  · dsimp only at hit ⊢
    rw [hit, hs_bl, if_pos rfl]
    exact he_q0 F7 Y
  dsimp only at hit ⊢
  rw [hit, hs_br, if_neg (by decide)]
  refine e_i R7 v8 (e_r7 R7 (e_rd R7 (k := 1) rfl (by decide) (e_cx R7 ?_)))
  refine e_num R7 F7 (l := 0) rfl hh1 (fun er M7 hit F7 Y => ?_) (fun y14 M13 hit F13 R13 v14 r14 => ?_)
  · dsimp only at hit ⊢
    rw [hit, hs_bl, if_pos rfl]
    exact he_q0 F7 Y
  dsimp only at hit ⊢
  rw [hit, hs_br, if_neg (by decide)]
  refine e_i R13 v14 (e_cx R13 ?_)
  obtain ⟨h, eh⟩ : ∃ h : Nat, y8.2.toInt = (h : Int) := ⟨y8.2.toInt.toNat, by omega⟩
  obtain ⟨t, et⟩ : ∃ t : Nat, y14.2.toInt = (t : Int) := ⟨y14.2.toInt.toNat, by omega⟩
  rw [i_cl eh, i_cl et]
  have a1 := i_mulL (c := (14 : Int32)) (x := y8.2) (n := 14) rfl (by omega) (by omega)
  have a2 := i_cadd (c := (59 : Int32)) (x := (14 : Int32) * y8.2) (n := 59) rfl (by omega) (by omega)
  have a3 := i_mulL (c := (2 : Int32)) (x := y14.2) (n := 2) rfl (by omega) (by omega)
  have a4 := i_add (x := (59 : Int32) + (14 : Int32) * y8.2) (y := (2 : Int32) * y14.2) (by omega) (by omega)
  have a5 := i_addc (x := ((59 : Int32) + (14 : Int32) * y8.2) + (2 : Int32) * y14.2) (c := (1 : Int32)) (n := 1) rfl (by omega) (by omega)
  refine e_cell R13 F13 (k := 59 + 14 * h + 2 * t) (l := 0) (h := 9) (by omega) (by omega) rfl rfl (fun v _ _ => h_tSf (h_tSn (by omega) (by omega) (by omega))) (fun er M7 hit F7 Y => ?_) (fun y16 M17 hit F17 R17 r17 => ?_)
  · dsimp only at hit ⊢
    rw [hit, hs_bl, if_pos rfl]
    exact he_q0 F7 Y
  dsimp only at hit ⊢
  rw [hit, hs_br, if_neg (by decide)]
  refine e_cx R17 ?_
  refine e_cell R17 F17 (k := 60 + 14 * h + 2 * t) (l := 1) (h := 99) (by omega) (by omega) rfl rfl (fun v _ _ => h_tSf (h_tSn (by omega) (by omega) (by omega))) (fun er M7 hit F7 Y => ?_) (fun y19 M20 hit F20 R20 r20 => ?_)
  · dsimp only at hit ⊢
    rw [hit, hs_bl, if_pos rfl]
    exact he_q0 F7 Y
  dsimp only at hit ⊢
  rw [hit, hs_br, if_neg (by decide)]
  exact he_q1 F20 R20
-- 7x.8j.href3
/-! a clause, the whole text, house(): of the reference -/
theorem he_end {T M : gM} {r : hs_R} {o : Option (Int32 × gM)} (h : Ok o (he_Q T r M)) : Ok (o.bind fun (v, M2) => if v = 0 ∨ v = 1 then some (v, M2) else none) (he_Q T r M) := by
  refine Ok_b h (fun y z => ?_)
  obtain ⟨a, b⟩ := y
  refine Ok_t ?_ (Ok_s z)
  obtain ⟨_, z⟩ := z
  cases r with
  | inl er => exact Or.inl z.1
  | inr x => exact Or.inr z.1
theorem q_w {T M : gM} {x : hS} {w : Int64} {k : Int} (S : he_S T M x) (h : n_w T x.1 w = true ↔ k_kind T x.1 = k) : F_X12_isWord (some 175) w M = some (if k_kind T x.1 = k then 1 else 0, M) := by
  obtain ⟨e1, e2, e3⟩ := he_x S.1
  have ew := (n_T S.1.2.1.1 S.1.2.1.2).2.1.1
  have ea : n_at M x.1 = M := by rw [← S.2]; exact n_at_self S.1.1.1
  rw [R_isWord S.1.1.1 S.1.1.2, e1, ew, ea]
  by_cases c : k_kind T x.1 = k
  · rw [if_pos c, if_pos (h.mpr c)]
  · rw [if_neg c, if_neg (fun z => c (h.mp z))]
theorem n_w_house {T : gM} {p : Nat} : n_w T p 448546567013 = true ↔ k_kind T p = 275 := w_iff (i := 14) (by decide) (by decide)
theorem n_w_thing {T : gM} {p : Nat} : n_w T p 499967946343 = true ↔ k_kind T p = 262 := w_iff (i := 1) (by decide) (by decide)
theorem n_w_song {T : gM} {p : Nat} : n_w T p 1936682599 = true ↔ k_kind T p = 268 := w_iff (i := 7) (by decide) (by decide)
theorem n_w_heir {T : gM} {p : Nat} : n_w T p 1751476594 = true ↔ k_kind T p = 261 := w_iff (i := 0) (by decide) (by decide)
theorem n_w_hates {T : gM} {p : Nat} : n_w T p 448311616883 = true ↔ k_kind T p = 267 := w_iff (i := 6) (by decide) (by decide)
theorem n_w_cousins {T : gM} {p : Nat} : n_w T p 27988572932501107 = true ↔ k_kind T p = 276 := w_iff (i := 15) (by decide) (by decide)
theorem n_w_knows {T : gM} {p : Nat} : n_w T p 461414299507 = true ↔ k_kind T p = 277 := w_iff (i := 16) (by decide) (by decide)
theorem E_isHouseWord {T M : gM} {x : hS} (S : he_S T M x) : F_X12_isHouseWord (some 175) M = some (if hs_w (k_kind T x.1) = false then 0 else 1, M) := by
  have H := S.1.1.1
  have y : ∀ h : (k_kind T x.1 = 275 ∨ k_kind T x.1 = 262 ∨ k_kind T x.1 = 268) ∨ (k_kind T x.1 = 261 ∨ k_kind T x.1 = 267) ∨ k_kind T x.1 = 276 ∨ k_kind T x.1 = 277, some ((1 : Int32), M) = some (if hs_w (k_kind T x.1) = false then 0 else 1, M) := by
    intro h
    have : hs_w (k_kind T x.1) = true := decide_eq_true h
    rw [this, if_neg (by decide)]
  have b1 : F_X12_isHouseWord_b40 (some 175) M = some ((1 : Int32), M) := by
    delta F_X12_isHouseWord_b40 F_X12_isHouseWord_b45 F_X12_isHouseWord_b80
    rw [if_neg (by decide)]
  delta F_X12_isHouseWord F_X12_isHouseWord_b0
  rw [e_gO H, Option.bind_some, q_w S n_w_house, Option.bind_some]
  dsimp only
  by_cases c1 : k_kind T x.1 = 275
  · rw [if_pos c1, if_neg (by decide), b1]
    exact y (Or.inl (Or.inl c1))
  rw [if_neg c1, if_pos rfl, e_gC H, Option.bind_some, q_w S n_w_thing, Option.bind_some]
  dsimp only
  by_cases c2 : k_kind T x.1 = 262
  · rw [if_pos c2, if_neg (by decide), b1]
    exact y (Or.inl (Or.inr (Or.inl c2)))
  rw [if_neg c2, if_pos rfl, e_gC H, Option.bind_some, q_w S n_w_song, Option.bind_some]
  dsimp only
  by_cases c3 : k_kind T x.1 = 268
  · rw [if_pos c3, if_neg (by decide), b1]
    exact y (Or.inl (Or.inr (Or.inr c3)))
  rw [if_neg c3, if_pos rfl, e_gC H, Option.bind_some, q_w S n_w_heir, Option.bind_some]
  dsimp only
  by_cases c4 : k_kind T x.1 = 261
  · rw [if_pos c4, if_neg (by decide), b1]
    exact y (Or.inr (Or.inl (Or.inl c4)))
  rw [if_neg c4, if_pos rfl]
  delta F_X12_isHouseWord_b45 F_X12_isHouseWord_b80
  rw [if_pos rfl, e_gO H, Option.bind_some, q_w S n_w_hates, Option.bind_some]
  dsimp only
  by_cases c5 : k_kind T x.1 = 267
  · rw [if_pos c5, if_neg (by decide)]
    exact y (Or.inr (Or.inl (Or.inr c5)))
  rw [if_neg c5, if_pos rfl, e_gC H, Option.bind_some, q_w S n_w_cousins, Option.bind_some]
  dsimp only
  by_cases c6 : k_kind T x.1 = 276
  · rw [if_pos c6, if_neg (by decide)]
    exact y (Or.inr (Or.inr (Or.inl c6)))
  rw [if_neg c6, if_pos rfl, e_gC H, Option.bind_some, q_w S n_w_knows, Option.bind_some]
  dsimp only
  by_cases c7 : k_kind T x.1 = 277
  · rw [if_pos c7, if_neg (by decide)]
    exact y (Or.inr (Or.inr (Or.inr c7)))
  rw [if_neg c7, if_pos rfl]
  have : hs_w (k_kind T x.1) = false := decide_eq_false (by omega)
  rw [this, if_pos rfl]
def he_I (σ : Nat → Int32) (cl : Nat) : Prop := (0 ≤ (σ 3).toInt ∧ (σ 3).toInt ≤ 10) ∧ σ 0 = (if cl = 1 then 0 else 1)
theorem E_houseLine {T M : gM} {x : hS} {l1 : Int32} {cl : Nat} (S : he_S T M x) (hl : l1.toInt = (x.1 : Int)) (I : he_I x.2 cl) (hw : hs_w (k_kind T x.1) = true) (c40 : cl ≤ 40) : Ok (F_X12_houseLineHere (some 175) l1 M) (he_Q T (if hs_bad x.2 (k_kind T x.1) cl = true then .inl (1 + 8 * x.1 + 4) else hs_body T (k_kind T x.1) (k_go T x.1, x.2)) M) := by
  have H := S.1.1.1
  obtain ⟨e1, e2, e3⟩ := he_x S.1
  have w := of_decide_eq_true hw
  have r1 := S.1.1.1.2.1 181 (by decide) 1
  have r2 := S.1.1.1.2.1 181 (by decide) 2
  have s1 : 0 ≤ (M.2.1 181 1).toInt ∧ (M.2.1 181 1).toInt ≤ 7 := r1
  have s2 : 0 ≤ (M.2.1 181 2).toInt ∧ (M.2.1 181 2).toInt ≤ 7 := r2
  rw [S.1.2.2.2] at s1 s2
  have z7 : (7 : Int32).toInt = 7 := rfl
  have z10 : (10 : Int32).toInt = 10 := rfl
  have I3 := I.1
  have hb : hs_bad x.2 (k_kind T x.1) cl = true ↔ (¬ (k_kind T x.1 = 275 ↔ cl = 1)) ∨ ((k_kind T x.1 = 262 ∧ x.2 1 = 7) ∨ (k_kind T x.1 = 261 ∧ x.2 2 = 7) ∨ (k_kind T x.1 = 276 ∧ x.2 3 = 10)) := by
    have t1 : x.2 1 = 7 ↔ 7 ≤ (x.2 1).toInt := ⟨fun h => by rw [h]; decide, fun h => Int32.toInt_inj.mp (by omega)⟩
    have t2 : x.2 2 = 7 ↔ 7 ≤ (x.2 2).toInt := ⟨fun h => by rw [h]; decide, fun h => Int32.toInt_inj.mp (by omega)⟩
    have t3 : x.2 3 = 10 ↔ 10 ≤ (x.2 3).toInt := ⟨fun h => by rw [h]; decide, fun h => Int32.toInt_inj.mp (by omega)⟩
    unfold hs_bad hs_full
    rw [Bool.or_eq_true, decide_eq_true_iff, decide_eq_true_iff, t1, t2, t3]
    constructor
    · rintro ((h | h) | h)
      · omega
      · exact Or.inl h
      · exact Or.inr h
    · rintro (h | h)
      · exact Or.inl (Or.inr h)
      · exact Or.inr h
  delta F_X12_houseLineHere F_X12_houseLineHere_b0
  rw [e_gO H, Option.bind_some, q_w S n_w_house, Option.bind_some]
  dsimp only
  have I0 := I.2
  by_cases c1 : k_kind T x.1 = 275
  · rw [if_pos c1, if_neg (by decide), e_gC H, Option.bind_some]
    have := he_end (E_isHouseHere S c1 hl)
    by_cases cc : cl = 1
    · rw [if_pos cc] at I0
      rw [I0, if_pos (by decide)] at this
      rw [if_neg (fun h => by have := hb.mp h; omega)]
      unfold hs_body
      rw [if_neg (by omega), if_neg (by omega), if_neg (by omega), if_neg (by omega), if_pos c1]
      exact this
    · rw [if_neg cc] at I0
      rw [I0, if_neg (by decide)] at this
      rw [if_pos (hb.mpr (Or.inl (by omega)))]
      exact this
  rw [if_neg c1, if_pos rfl]
  refine e_r7 S.1 (e_rd S.1 (k := 0) rfl (by decide) ?_)
  by_cases cc : cl = 1
  · rw [if_pos cc] at I0
    rw [I0, if_pos rfl, if_pos (hb.mpr (Or.inl (by omega)))]
    refine e_cx S.1 ?_
    exact e_fails S.1.1.1 (y_rf0 _ _) S.1.2.2.1.2 hl (by omega) rfl (by decide)
  rw [if_neg cc] at I0
  rw [I0, if_neg (by decide)]
  have hb' : hs_bad x.2 (k_kind T x.1) cl = true ↔ ((k_kind T x.1 = 262 ∧ x.2 1 = 7) ∨ (k_kind T x.1 = 261 ∧ x.2 2 = 7) ∨ (k_kind T x.1 = 276 ∧ x.2 3 = 10)) := by
    rw [hb]
    exact ⟨fun h => h.elim (fun h => absurd (by omega) h) id, Or.inr⟩
  unfold hs_body
  rw [e_gC H, Option.bind_some, q_w S n_w_thing, Option.bind_some]
  dsimp only
  by_cases c2 : k_kind T x.1 = 262
  · rw [if_pos c2, if_neg (by decide), e_gC H, Option.bind_some]
    have := he_end (E_isThingHere S c2 hl)
    by_cases c7 : x.2 1 = 7
    · rw [if_pos c7] at this
      rw [if_pos (hb'.mpr (Or.inl ⟨c2, c7⟩))]
      exact this
    · rw [if_neg c7] at this
      rw [if_neg (fun h => by rcases hb'.mp h with h | h | h; exact c7 h.2; omega; omega), if_neg (by omega), if_pos c2]
      exact this
  rw [if_neg c2, if_pos rfl, e_gC H, Option.bind_some, q_w S n_w_heir, Option.bind_some]
  dsimp only
  by_cases c3 : k_kind T x.1 = 261
  · rw [if_pos c3, if_neg (by decide), e_gC H, Option.bind_some]
    have := he_end (E_isHeirHere S c3 hl)
    by_cases c7 : x.2 2 = 7
    · rw [if_pos c7] at this
      rw [if_pos (hb'.mpr (Or.inr (Or.inl ⟨c3, c7⟩)))]
      exact this
    · rw [if_neg c7] at this
      rw [if_neg (fun h => by rcases hb'.mp h with h | h | h; omega; exact c7 h.2; omega), if_pos c3]
      exact this
  rw [if_neg c3, if_pos rfl, e_gC H, Option.bind_some, q_w S n_w_song, Option.bind_some]
  dsimp only
  by_cases c4 : k_kind T x.1 = 268
  · rw [if_pos c4, if_neg (by decide), e_gC H, Option.bind_some]
    rw [if_neg (fun h => by rcases hb'.mp h with h | h | h <;> omega), if_neg c3, if_neg c2, if_neg (by omega), if_pos c4]
    exact he_end (E_isSongHere S c4)
  rw [if_neg c4, if_pos rfl, e_gC H, Option.bind_some, q_w S n_w_hates, Option.bind_some]
  dsimp only
  by_cases c5 : k_kind T x.1 = 267
  · rw [if_pos c5, if_neg (by decide), e_gC H, Option.bind_some]
    rw [if_neg (fun h => by rcases hb'.mp h with h | h | h <;> omega), if_neg c3, if_neg c2, if_pos c5]
    exact he_end (E_isHateHere S c5)
  rw [if_neg c5, if_pos rfl, e_gC H, Option.bind_some, q_w S n_w_cousins, Option.bind_some]
  dsimp only
  by_cases c6 : k_kind T x.1 = 276
  · rw [if_pos c6, if_neg (by decide), e_gC H, Option.bind_some]
    have := he_end (E_areCousinsHere S c6 hl I.1)
    by_cases c7 : x.2 3 = 10
    · rw [if_pos c7] at this
      rw [if_pos (hb'.mpr (Or.inr (Or.inr ⟨c6, c7⟩)))]
      exact this
    · rw [if_neg c7] at this
      rw [if_neg (fun h => by rcases hb'.mp h with h | h | h; omega; omega; exact c7 h.2), if_neg c3, if_neg c2, if_neg c5, if_neg c4, if_neg c1, if_pos c6]
      exact this
  rw [if_neg c6, if_pos rfl, e_gC H, Option.bind_some]
  rw [if_neg (fun h => by rcases hb'.mp h with h | h | h <;> omega), if_neg c3, if_neg c2, if_neg c5, if_neg c4, if_neg c1, if_neg c6]
  exact he_end (E_isKnownHere S (by omega))
theorem E_hclauseHere {T M : gM} {x : hS} {cl : Nat} (R : he_R T M x) (e11 : M.2.1 175 11 = 6) (e14 : (M.2.1 175 14).toInt + 1 = (cl : Int)) (h1 : 1 ≤ cl) (h41 : cl ≤ 41) (I : he_I x.2 cl) : Ok (F_X12_clauseHere (some 175) M) (fun y => y_Fr (he_A + 2 ^ 14) M y.2 ∧ he_P T (hs_cl T cl x) y ∧ (y.1 = 1 → (y.2.2.1 175 14).toInt = (cl : Int))) := by
  have z40 : (40 : Int32).toInt = 40 := rfl
  delta F_X12_clauseHere F_X12_clauseHere_b0
  refine e_o R ?_
  refine e_see R (y_rf0 _ _) (fun M3 F3 S3 => ?_)
  dsimp only
  have R3 := S3.1
  obtain ⟨x1, x2, x3⟩ := he_x R3
  have v8 : M3.2.1 175 8 = Int32.ofNat x.1 := by
    have h := n_x1 R3.1.1
    rw [S3.2] at h
    exact i_of h.1 (by omega)
  have xi : (Int32.ofNat x.1).toInt = (x.1 : Int) := i_ofNat (by omega)
  refine e_i R3 v8 (e_i R3 ((y_fk (i := 175) (k := 11) F3 (by decide)).trans e11) ?_)
  refine Ok_t rfl ?_
  delta F_X12_clauseHere_b24
  refine Ok_e (by decide) (e_o R3 ?_)
  refine x_eq (E_isHouseWord S3) ?_
  dsimp only
  unfold hs_cl
  have fl : ∀ {d : Nat} {k : Int32}, k.toInt = (d : Int) → d ≤ 4 → Ok ((F_X12_fails (some 175) k (Int32.ofNat x.1) M3).bind fun (v2, M4) => if v2 = 0 ∨ v2 = 1 then some (v2, M4) else none) (fun y => y_Fr (he_A + 2 ^ 14) M y.2 ∧ he_P T (.inl (1 + 8 * x.1 + d)) y ∧ (y.1 = 1 → (y.2.2.1 175 14).toInt = (cl : Int))) := by
    intro d k hk hd
    refine Ok_w (e_fails (T := T) R3.1.1 F3 R3.2.2.1.2 xi (by omega) hk hd) (fun y z => ⟨y_fl (by decide) z.1, z.2, fun h => ?_⟩)
    have := z.2.1
    rw [h] at this
    exact absurd this (by decide)
  by_cases cw : hs_w (k_kind T x.1) = false
  · rw [if_pos cw, if_pos cw]
    refine Ok_t rfl ?_
    delta F_X12_clauseHere_b49
    exact e_o R3 (fl rfl (by decide))
  rw [if_neg cw, if_neg cw]
  refine Ok_e (by decide) ?_
  delta F_X12_clauseHere_b56
  refine e_i R3 rfl ?_
  refine Ok_e (by decide) ?_
  have l14 : M3.2.1 175 14 = M.2.1 175 14 := y_fk (i := 175) (k := 14) F3 (by decide)
  rw [l14]
  delta F_X12_clauseHere_b71
  by_cases c40 : M.2.1 175 14 = 40
  · have hb : hs_bad x.2 (k_kind T x.1) cl = true := by
      unfold hs_bad
      rw [decide_eq_true (Or.inl (by rw [c40] at e14; omega))]
      rfl
    rw [if_pos hb]
    refine Ok_t c40 (e_o R3 ?_)
    exact fl rfl (by decide)
  have n40 : (M.2.1 175 14).toInt ≠ 40 := fun h => c40 (Int32.toInt_inj.mp h)
  refine Ok_e c40 ?_
  refine e_i R3 l14 ?_
  obtain ⟨c, ec⟩ : ∃ c : Nat, (M.2.1 175 14).toInt = (c : Int) := ⟨(M.2.1 175 14).toInt.toNat, by omega⟩
  rw [n_inc ec (by omega), e_pI R3.1.1, Option.bind_some]
  obtain ⟨H2, f2⟩ := y_set (M' := mI M3 175 14 (Int32.ofNat (c + 1))) (S := 2 ^ 14) R3.1.1 (i := 175) (k := 14) (by decide) rfl rfl y_mI1 (fun j a hj => y_mI2 hj) rfl (y_full rfl) (by decide)
  have w14 : (mI M3 175 14 (Int32.ofNat (c + 1))).2.1 175 14 = Int32.ofNat (c + 1) := y_mI1
  generalize mI M3 175 14 (Int32.ofNat (c + 1)) = M2 at H2 f2 w14 ⊢
  have R2 : he_R T M2 x := he_R_fr R3 H2 f2 (by decide)
  have S2 : he_S T M2 x := ⟨R2, by rw [n_fx f2 (by decide)]; exact S3.2⟩
  refine Ok_e (by decide) (e_o R2 ?_)
  have hb2 : (if hs_bad x.2 (k_kind T x.1) cl = true then (.inl (1 + 8 * x.1 + 4) : hs_R) else hs_body T (k_kind T x.1) (k_go T x.1, x.2)) = (if hs_bad x.2 (k_kind T x.1) cl = true then (.inl (1 + 8 * x.1 + 4) : hs_R) else hs_body T (k_kind T x.1) (k_go T x.1, x.2)) := rfl
  refine Ok_w (he_end (E_houseLine S2 xi I (Bool.of_not_eq_false cw) (by omega))) (fun y z => ⟨y_tr (y_fl (by decide) F3) (y_tr (y_fl (by decide) f2) (y_fl (by decide) z.1)), z.2, fun _ => ?_⟩)
  rw [y_fk (i := 175) (k := 14) z.1 (by decide), w14, i_ofNat (by omega)]
  omega
/-- what the reading keeps -/
theorem hs_b_inr {α : Type} {r : hs_N} {f : Nat → Int32 → Nat ⊕ α} {y : α} (h : hs_b r f = .inr y) : ∃ z, r = .inr z ∧ f z.1 z.2 = .inr y := by
  cases r with
  | inl e => cases h
  | inr z => exact ⟨z, rfl, h⟩
theorem hs_cl_I {T : gM} {cl : Nat} {x y : hS} (h : hs_cl T cl x = .inr y) (h1 : 1 ≤ cl) (I : he_I x.2 cl) : he_I y.2 (cl + 1) ∧ cl ≤ 40 := by
  have e1 : (if cl + 1 = 1 then (0 : Int32) else 1) = 1 := if_neg (by omega)
  unfold hs_cl at h
  by_cases cw : hs_w (k_kind T x.1) = false
  · rw [if_pos cw] at h
    cases h
  rw [if_neg cw] at h
  by_cases cb : hs_bad x.2 (k_kind T x.1) cl = true
  · rw [if_pos cb] at h
    cases h
  rw [if_neg cb] at h
  have nb : ¬ (40 < cl) ∧ (k_kind T x.1 = 275 ↔ cl = 1) ∧ ¬ (k_kind T x.1 = 276 ∧ 10 ≤ (x.2 3).toInt) := by
    unfold hs_bad hs_full at cb
    rw [Bool.or_eq_true, decide_eq_true_iff, decide_eq_true_iff] at cb
    omega
  refine ⟨?_, by omega⟩
  have keep : ∀ {σ : Nat → Int32}, k_kind T x.1 ≠ 275 → σ 0 = x.2 0 → σ 3 = x.2 3 → he_I σ (cl + 1) := by
    intro σ k0 a b
    refine ⟨by rw [b]; exact I.1, ?_⟩
    rw [a, e1, I.2, if_neg (by omega)]
  unfold hs_body at h
  by_cases c1 : k_kind T x.1 = 261
  · rw [if_pos c1] at h
    obtain ⟨z1, _, h⟩ := hs_b_inr h
    obtain ⟨z2, _, h⟩ := hs_b_inr h
    obtain rfl := Sum.inr.inj h
    dsimp only
    refine keep (by omega) ?_ ?_
    · rw [hs_sn (show (0 : Nat) ≠ 2 by decide)]
      unfold hs_new
      rw [if_neg (by omega), hs_sn (by omega), hs_sn (by omega), hs_sn (by omega)]
    · rw [hs_sn (show (3 : Nat) ≠ 2 by decide)]
      unfold hs_new
      rw [if_neg (by omega), hs_sn (by omega), hs_sn (by omega), hs_sn (by omega)]
  rw [if_neg c1] at h
  by_cases c2 : k_kind T x.1 = 262
  · rw [if_pos c2] at h
    obtain ⟨z1, _, h⟩ := hs_b_inr h
    obtain ⟨z2, _, h⟩ := hs_b_inr h
    obtain ⟨z3, _, h⟩ := hs_b_inr h
    obtain rfl := Sum.inr.inj h
    dsimp only
    refine keep (by omega) ?_ ?_
    · rw [hs_sn (show (0 : Nat) ≠ 1 by decide), hs_sn (by omega), hs_sn (by omega), hs_sn (by omega), hs_sn (by omega)]
    · rw [hs_sn (show (3 : Nat) ≠ 1 by decide), hs_sn (by omega), hs_sn (by omega), hs_sn (by omega), hs_sn (by omega)]
  rw [if_neg c2] at h
  by_cases c3 : k_kind T x.1 = 267
  · rw [if_pos c3] at h
    obtain ⟨z1, _, h⟩ := hs_b_inr h
    obtain rfl := Sum.inr.inj h
    dsimp only
    exact keep (by omega) (hs_sn (show (0 : Nat) ≠ 6 by decide)) (hs_sn (show (3 : Nat) ≠ 6 by decide))
  rw [if_neg c3] at h
  by_cases c4 : k_kind T x.1 = 268
  · rw [if_pos c4] at h
    obtain ⟨z1, _, h⟩ := hs_b_inr h
    obtain rfl := Sum.inr.inj h
    dsimp only
    exact keep (by omega) (hs_sn (show (0 : Nat) ≠ 7 by decide)) (hs_sn (show (3 : Nat) ≠ 7 by decide))
  rw [if_neg c4] at h
  by_cases c5 : k_kind T x.1 = 275
  · rw [if_pos c5] at h
    obtain ⟨z1, _, h⟩ := hs_b_inr h
    obtain rfl := Sum.inr.inj h
    dsimp only
    refine ⟨?_, by rw [e1, hs_se]⟩
    rw [hs_sn (show (3 : Nat) ≠ 0 by decide), hs_sn (show (3 : Nat) ≠ 5 by decide)]
    exact I.1
  rw [if_neg c5] at h
  by_cases c6 : k_kind T x.1 = 276
  · rw [if_pos c6] at h
    obtain ⟨z1, _, h⟩ := hs_b_inr h
    obtain ⟨z2, _, h⟩ := hs_b_inr h
    dsimp only at h
    split at h
    · cases h
    · obtain rfl := Sum.inr.inj h
      dsimp only
      have I3 := I.1
      have inc : (x.2 3 + 1).toInt = (x.2 3).toInt + 1 := i_addc (n := 1) rfl (by omega) (by omega)
      refine ⟨?_, ?_⟩
      · rw [hs_se, inc]
        omega
      · rw [hs_sn (show (0 : Nat) ≠ 3 by decide), hs_sn (by omega), hs_sn (by omega), e1, I.2, if_neg (by omega)]
  rw [if_neg c6] at h
  obtain ⟨z1, _, h⟩ := hs_b_inr h
  obtain ⟨z2, _, h⟩ := hs_b_inr h
  obtain ⟨z3, _, h⟩ := hs_b_inr h
  obtain ⟨z4, _, h⟩ := hs_b_inr h
  obtain rfl := Sum.inr.inj h
  dsimp only
  refine keep c5 ?_ ?_
  · rw [hs_sn (by omega), hs_sn (by omega)]
  · rw [hs_sn (by omega), hs_sn (by omega)]
-- 7y.8k.href4
/-! the whole text by the reference, and its house() -/
def he_U : Nat := he_A + 2 ^ 14 + 2 ^ 1
def he_Z (r : hs_R) (M0 : gM) : Int32 × gM → Prop := fun w => (y_HT w.2 ∧ y_Fr he_U M0 w.2) ∧ w.2.2.1 175 1 = 0 ∧ (match r with | .inl e => w.1 = 0 ∧ (w.2.2.1 175 9).toInt = (e : Int) | .inr y => w.1 = 1 ∧ w.2.2.1 181 = y.2)
theorem E_hb88 {r : hs_R} {M M0 : gM} (H : y_HT M) (F : y_Fr he_U M0 M) (h : match r with | .inl e => (M.2.1 175 9).toInt = (e : Int) ∧ M.2.1 175 9 ≠ 0 | .inr y => M.2.1 175 9 = 0 ∧ M.2.1 181 = y.2) : Ok (F_X12_readsAll_b88 (some 175) M) (he_Z r M0) := by
  delta F_X12_readsAll_b88
  rw [e_pI H, Option.bind_some]
  obtain ⟨H1, f1⟩ := y_set (M' := mI M 175 1 (0 : Int32)) (S := he_U) H (i := 175) (k := 1) (by decide) rfl rfl y_mI1 (fun j a hj => y_mI2 hj) rfl (y_in (lo := 0) (hi := 400) rfl (by decide)) (by decide)
  have w9 : (mI M 175 1 (0 : Int32)).2.1 175 9 = M.2.1 175 9 := mI_ne (Or.inr (by decide))
  have w1 : (mI M 175 1 (0 : Int32)).2.1 175 1 = 0 := y_mI1
  have w181 : (mI M 175 1 (0 : Int32)).2.1 181 = M.2.1 181 := funext (fun k => mI_ne (Or.inl (by decide)))
  rw [e_gI H1, Option.bind_some, w9]
  cases r with
  | inl e =>
    rw [if_neg h.2]
    exact Ok_s ⟨⟨H1, y_tr F f1⟩, w1, rfl, by rw [w9]; exact h.1⟩
  | inr y =>
    rw [if_pos h.1]
    exact Ok_s ⟨⟨H1, y_tr F f1⟩, w1, rfl, w181.trans h.2⟩
def hs_nx (T : gM) (m cl : Nat) (r : hs_R) : hs_R := match r with
  | .inl e => .inl e
  | .inr y => if k_kind T y.1 = 256 then .inr y else if k_kind T y.1 = 59 then hs_tl T m (cl + 1) (k_go T y.1, y.2) else .inl (1 + 8 * y.1 + 0)
theorem hs_tl_S {T : gM} {m cl : Nat} {x : hS} : hs_tl T (m + 1) cl x = hs_nx T m cl (hs_cl T cl x) := rfl
theorem E_hrd_L35 {T M0 : gM} (B : z_B T) : ∀ (n m cl : Nat) {l1 : Int32} {M : gM} {r : hs_R}, y_HT M → y_Fr he_U M0 M → ((l1 = 0 ∧ ∃ er, r = .inl er ∧ he_Y M er) ∨ (l1 = 1 ∧ ∃ y, r = .inr y ∧ he_R T M y ∧ he_I y.2 (cl + 1) ∧ (M.2.1 175 14).toInt = (cl : Int) ∧ M.2.1 175 11 = 6 ∧ cl ≤ 40)) → 1 ≤ cl → 42 - cl < n → cl + m = 42 → Ok (F_X12_readsAll_L35 n (some 175) l1 M) (he_Z (hs_nx T m cl r) M0) := by
  intro n
  induction n with
  | zero => intro m cl l1 M r H F h h1 a1 hm; omega
  | succ n ih =>
    intro m cl l1 M r H F h hc1 a1 hm
    show Ok (F_X12_readsAll_b35 (F_X12_readsAll_L35 n) (some 175) l1 M) _
    delta F_X12_readsAll_b35
    rcases h with ⟨h, er, e1, Y⟩ | ⟨h, y, e1, R, I, e14, e11, c40⟩
    · subst e1
      rw [if_pos h]
      delta F_X12_readsAll_b66
      rw [if_pos h]
      exact E_hb88 (r := .inl er) H F ⟨Y.2.1, Y.2.2⟩
    · subst e1
      unfold hs_nx
      dsimp only
      have rx := he_x R
      rw [if_neg (by rw [h]; decide)]
      refine e_o R ?_
      refine e_see R (y_rf0 _ _) (fun M3 F3 S3 => ?_)
      dsimp only
      have R3 := S3.1
      have rx3 := he_x R3
      have k59 := k_s1 (T := T) (p := y.1) (c := (59 : Int32)) (n := 59) rfl (by omega) (by omega) (by omega) (by omega)
      have F03 : y_Fr he_U M0 M3 := y_tr F (y_fl (by decide) F3)
      have v8 : M3.2.1 175 8 = Int32.ofNat y.1 := by
        have h := n_x1 R3.1.1
        rw [S3.2] at h
        exact i_of h.1 (by omega)
      have xi : (Int32.ofNat y.1).toInt = (y.1 : Int) := i_ofNat (by omega)
      have f14 : M3.2.1 175 14 = M.2.1 175 14 := y_fk (i := 175) (k := 14) F3 (by decide)
      have f11 : M3.2.1 175 11 = M.2.1 175 11 := y_fk (i := 175) (k := 11) F3 (by decide)
      refine Ok_i (fun e => ?_) (fun e => ?_)
      · have hlt := n_c_lt e (by decide)
        have kk : k_kind T y.1 = 59 := k59.1.mp e
        have kg : n_sk T (y.1 + 1) = k_go T y.1 := (k59.2 e).symm
        rw [if_neg (show ¬ k_kind T y.1 = 256 by rw [kk]; decide), if_pos kk]
        have nx : M3.2.1 175 8 + (1 : Int32) = Int32.ofNat (y.1 + 1) := by rw [v8]; exact n_inc xi (by omega)
        refine e_i R3 rfl ?_
        rw [e_pI R3.1.1, Option.bind_some, nx]
        obtain ⟨F5, R5⟩ := he_at (p := y.1 + 1) R3 (by have := R3.2.1.2; omega)
        rw [kg] at R5
        have F05 : y_Fr he_U M0 (n_at M3 (y.1 + 1)) := y_tr F03 (y_fl (by decide) F5)
        have g14 : (n_at M3 (y.1 + 1)).2.1 175 14 = M3.2.1 175 14 := n_atk (by decide)
        have g11 : (n_at M3 (y.1 + 1)).2.1 175 11 = M3.2.1 175 11 := n_atk (by decide)
        rw [show mI M3 175 8 (Int32.ofNat (y.1 + 1)) = n_at M3 (y.1 + 1) from rfl]
        generalize n_at M3 (y.1 + 1) = M5 at R5 F05 g14 g11 ⊢
        refine e_cx R5 ?_
        refine Ok_b (E_hclauseHere (cl := cl + 1) R5 (by rw [g11, f11]; exact e11) (by rw [g14, f14, e14]; rfl) (by omega) (by omega) I) (fun w z => ?_)
        obtain ⟨v7, M8⟩ := w
        obtain ⟨F8, P8, L8⟩ := z
        dsimp only at F8 P8 L8 ⊢
        obtain ⟨m', rfl⟩ : ∃ m', m = m' + 1 := ⟨m - 1, by omega⟩
        rw [hs_tl_S]
        have F08 : y_Fr he_U M0 M8 := y_tr F05 (y_fl (by decide) F8)
        have i11 : M8.2.1 175 11 = 6 := by rw [y_fk (i := 175) (k := 11) F8 (by decide), g11, f11]; exact e11
        cases hit : hs_cl T (cl + 1) (k_go T y.1, y.2) with
        | inl er =>
          rw [hit] at P8
          exact ih m' (cl + 1) P8.2.1 F08 (Or.inl ⟨P8.1, er, rfl, P8.2⟩) (by omega) (by omega) (by omega)
        | inr y' =>
          rw [hit] at P8
          obtain ⟨J, J40⟩ := hs_cl_I hit (by omega) I
          exact ih m' (cl + 1) P8.2.1.1 F08 (Or.inr ⟨P8.1, y', rfl, P8.2, J, L8 P8.1, i11, J40⟩) (by omega) (by omega) (by omega)
      · have kn : k_kind T y.1 ≠ 59 := mt k59.1.mpr e
        delta F_X12_readsAll_b66
        rw [if_neg (by rw [h]; decide)]
        refine e_o R3 ?_
        refine e_see R3 (y_rf0 _ _) (fun M4 F4 S4 => ?_)
        dsimp only
        have R4 := S4.1
        have F04 : y_Fr he_U M0 M4 := y_tr F03 (y_fl (by decide) F4)
        have v84 : M4.2.1 175 8 = Int32.ofNat y.1 := by
          have h := n_x1 R4.1.1
          rw [S4.2] at h
          exact i_of h.1 (by omega)
        by_cases cE : n_s T ≤ y.1
        · rw [if_pos (show n_c T y.1 = -1 from (n_c_end B).mpr cE), if_pos (show k_kind T y.1 = 256 from (k_256 B).mpr cE)]
          exact E_hb88 (r := .inr y) R4.1.1 F04 ⟨R4.2.2.1.2, R4.2.2.2⟩
        · rw [if_neg (show ¬ n_c T y.1 = -1 from mt (n_c_end B).mp cE), if_neg (show ¬ k_kind T y.1 = 256 from mt (k_256 B).mp cE), if_neg kn]
          refine e_i R4 v84 (e_cx R4 ?_)
          rw [R_fails R4.1.1, Option.bind_some]
          dsimp only
          obtain ⟨a, b⟩ := he_fail (k := 0) (p := Int32.ofNat y.1) (d := 0) R4.1.1 (y_rf0 _ _) R4.2.2.1.2 xi (by omega) rfl (by decide)
          exact E_hb88 (r := .inl _) b.1 (y_tr F04 (y_fl (by decide) a)) ⟨b.2.1, b.2.2⟩
def he_V : Nat := he_U + 2 ^ 43 + 2 ^ 12
def he_ZZ (r : hs_R) (M0 : gM) : Int32 × gM → Prop := fun w => (y_HT w.2 ∧ y_Fr he_V M0 w.2) ∧ w.2.2.1 175 1 = 0 ∧ (match r with | .inl e => w.1 = 0 ∧ (w.2.2.1 175 9).toInt = (e : Int) | .inr y => w.1 = 1 ∧ w.2.2.1 181 = y.2)
theorem E_hreadsAll {T M : gM} {σ : Nat → Int32} (B : z_B T) (H : y_HT M) (e11 : M.2.1 175 11 = 6) (hb : n_b M = n_b T) (hs : n_s M = n_s T) (h181 : M.2.1 181 = σ) (h0 : ∀ k, k < 10 → σ k = 0) : Ok (F_X12_readsAll (some 175) M) (he_ZZ (hs_text T σ) M) := by
  have z6 : (6 : Int32).toInt = 6 := rfl
  delta F_X12_readsAll F_X12_readsAll_b0
  rw [e_gR H (w := 178) rfl (by decide), Option.bind_some, e_gI H, Option.bind_some, e11, e_sI H (i := 178) (n := 7) rfl (by decide) (by decide), Option.bind_some]
  obtain ⟨H3, f3⟩ := y_set (M' := mI M 178 (6 : Int32).toNatClampNeg (0 : Int32)) (S := he_V) H (i := 178) (k := (6 : Int32).toNatClampNeg) (by decide) rfl rfl y_mI1 (fun j a hj => y_mI2 hj) rfl (y_in (lo := 0) (hi := 400) rfl (by decide)) (by decide)
  have r3 : ∀ i k, i ≠ 178 → (mI M 178 (6 : Int32).toNatClampNeg (0 : Int32)).2.1 i k = M.2.1 i k := fun i k h => mI_ne (Or.inl h)
  generalize mI M 178 (6 : Int32).toNatClampNeg (0 : Int32) = M3 at H3 f3 r3 ⊢
  rw [e_pI H3, Option.bind_some]
  obtain ⟨H4, f4⟩ := y_set (M' := mI M3 175 14 (0 : Int32)) (S := he_V) H3 (i := 175) (k := 14) (by decide) rfl rfl y_mI1 (fun j a hj => y_mI2 hj) rfl (y_full rfl) (by decide)
  have w4 : (mI M3 175 14 (0 : Int32)).2.1 175 14 = 0 := y_mI1
  have r4 : ∀ i k, i ≠ 175 ∨ k ≠ 14 → (mI M3 175 14 (0 : Int32)).2.1 i k = M3.2.1 i k := fun i k h => mI_ne h
  generalize mI M3 175 14 (0 : Int32) = M4 at H4 f4 w4 r4 ⊢
  rw [e_pI H4, Option.bind_some]
  obtain ⟨H5, f5⟩ := y_set (M' := mI M4 175 8 (0 : Int32)) (S := he_V) H4 (i := 175) (k := 8) (by decide) rfl rfl y_mI1 (fun j a hj => y_mI2 hj) rfl (y_in (lo := 0) (hi := 400) rfl (by decide)) (by decide)
  have w5 : (mI M4 175 8 (0 : Int32)).2.1 175 8 = 0 := y_mI1
  have r5 : ∀ i k, i ≠ 175 ∨ k ≠ 8 → (mI M4 175 8 (0 : Int32)).2.1 i k = M4.2.1 i k := fun i k h => mI_ne h
  generalize mI M4 175 8 (0 : Int32) = M5 at H5 f5 w5 r5 ⊢
  rw [e_pI H5, Option.bind_some]
  obtain ⟨H6, f6⟩ := y_set (M' := mI M5 175 9 (0 : Int32)) (S := he_V) H5 (i := 175) (k := 9) (by decide) rfl rfl y_mI1 (fun j a hj => y_mI2 hj) rfl (y_full rfl) (by decide)
  have w6 : (mI M5 175 9 (0 : Int32)).2.1 175 9 = 0 := y_mI1
  have r6 : ∀ i k, i ≠ 175 ∨ k ≠ 9 → (mI M5 175 9 (0 : Int32)).2.1 i k = M5.2.1 i k := fun i k h => mI_ne h
  generalize mI M5 175 9 (0 : Int32) = M6 at H6 f6 w6 r6 ⊢
  rw [e_pI H6, Option.bind_some]
  obtain ⟨H7, f7⟩ := y_set (M' := mI M6 175 12 (0 : Int32)) (S := he_V) H6 (i := 175) (k := 12) (by decide) rfl rfl y_mI1 (fun j a hj => y_mI2 hj) rfl (y_in (lo := 0) (hi := 60) rfl (by decide)) (by decide)
  have r7 : ∀ i k, i ≠ 175 ∨ k ≠ 12 → (mI M6 175 12 (0 : Int32)).2.1 i k = M6.2.1 i k := fun i k h => mI_ne h
  generalize mI M6 175 12 (0 : Int32) = M7 at H7 f7 r7 ⊢
  have F7 : y_Fr he_V M M7 := y_tr f3 (y_tr f4 (y_tr f5 (y_tr f6 f7)))
  have e : ∀ i, i ≠ 175 → i ≠ 178 → ∀ k, M7.2.1 i k = M.2.1 i k := fun i h1 h2 k => by rw [r7 i k (Or.inl h1), r6 i k (Or.inl h1), r5 i k (Or.inl h1), r4 i k (Or.inl h1), r3 i k h2]
  have e11' : M7.2.1 175 11 = 6 := by rw [r7 _ _ (Or.inr (by decide)), r6 _ _ (Or.inr (by decide)), r5 _ _ (Or.inr (by decide)), r4 _ _ (Or.inr (by decide)), r3 _ _ (by decide)]; exact e11
  have e1 : M7.2.1 175 1 = M.2.1 175 1 := by rw [r7 _ _ (Or.inr (by decide)), r6 _ _ (Or.inr (by decide)), r5 _ _ (Or.inr (by decide)), r4 _ _ (Or.inr (by decide)), r3 _ _ (by decide)]
  have e14 : M7.2.1 175 14 = 0 := by rw [r7 _ _ (Or.inr (by decide)), r6 _ _ (Or.inr (by decide)), r5 _ _ (Or.inr (by decide)), w4]
  have e8 : M7.2.1 175 8 = 0 := by rw [r7 _ _ (Or.inr (by decide)), r6 _ _ (Or.inr (by decide)), w5]
  have e9 : M7.2.1 175 9 = 0 := by rw [r7 _ _ (Or.inr (by decide)), w6]
  have x7 : n_x M7 = 0 := by unfold n_x; rw [e8]; rfl
  have s7 : n_s M7 = n_s M := by unfold n_s; rw [e1]
  have R7 : he_R T M7 (n_sk T 0, σ) := by
    refine ⟨⟨H7, by rw [x7]; exact Nat.zero_le _⟩, ⟨(funext (fun q => e 176 (by decide) (by decide) q)).trans hb, s7.trans hs⟩, ⟨by rw [x7], e9⟩, ?_⟩
    rw [← h181]
    exact funext (fun q => e 181 (by decide) (by decide) q)
  have I1 : he_I σ 1 := ⟨by rw [h0 3 (by decide)]; decide, by rw [h0 0 (by decide), if_pos rfl]⟩
  refine e_o R7 ?_
  refine Ok_b (E_hclauseHere (cl := 1) R7 e11' (by rw [e14]; rfl) (by decide) (by decide) I1) (fun w z => ?_)
  obtain ⟨v9, M10⟩ := w
  obtain ⟨F10, P10, L10⟩ := z
  dsimp only at F10 P10 L10 ⊢
  have ht : hs_text T σ = hs_nx T 41 1 (hs_cl T 1 (n_sk T 0, σ)) := hs_tl_S
  rw [ht]
  have F010 : y_Fr he_V M M10 := y_tr F7 (y_fl (by decide) F10)
  have i11 : M10.2.1 175 11 = 6 := by rw [y_fk (i := 175) (k := 11) F10 (by decide)]; exact e11'
  have fin : ∀ {r : hs_R}, Ok (F_X12_readsAll_L35 g_fuel (some 175) v9 M10) (he_Z r M10) → Ok (F_X12_readsAll_L35 g_fuel (some 175) v9 M10) (he_ZZ r M) := fun h => Ok_w h (fun w z => ⟨⟨z.1.1, y_tr F010 (y_fl (by decide) z.1.2)⟩, z.2⟩)
  have gf : g_fuel = 1000000000 := rfl
  cases hit : hs_cl T 1 (n_sk T 0, σ) with
  | inl er =>
    rw [hit] at P10
    exact fin (E_hrd_L35 B g_fuel 41 1 P10.2.1 (y_rf0 _ _) (Or.inl ⟨P10.1, er, rfl, P10.2⟩) (by decide) (by omega) (by decide))
  | inr y' =>
    rw [hit] at P10
    obtain ⟨J, J40⟩ := hs_cl_I hit (by decide) I1
    exact fin (E_hrd_L35 B g_fuel 41 1 P10.2.1.1 (y_rf0 _ _) (Or.inr ⟨P10.1, y', rfl, P10.2, J, L10 P10.1, i11, J40⟩) (by decide) (by omega) (by decide))
theorem f_tS0' {k : Nat} : y_rg (y_tS k) 0 := by
  unfold y_tS
  split
  · exact ⟨by decide, by decide⟩
  · split
    · exact ⟨by decide, by decide⟩
    · split <;> exact ⟨by decide, by decide⟩
theorem E_houseC_L44 : ∀ (n k : Nat) {l1 : Int32} {M : gM}, y_HT M → l1.toInt = (k : Int) → k ≤ 157 → 157 - k < n → (∀ j, j < k → M.2.1 185 j = M.2.1 181 j) → Ok (F_X12_house_L44 n (some 175) l1 M) (fun r => (r.1 = M.2.1 181 2 ∧ ∀ j, j < 157 → r.2.2.1 185 j = M.2.1 181 j) ∧ r.2.2.1 175 25 = 0 ∧ r.2.2.1 175 1 = M.2.1 175 1) := by
  intro n
  induction n with
  | zero => intro k l1 M H h h1 h2 h3; omega
  | succ n ih =>
    intro k l1 M H h h1 h2 h3
    show Ok (F_X12_house_b44 (F_X12_house_L44 n) (some 175) l1 M) _
    have z : (157 : Int32).toInt = 157 := rfl
    delta F_X12_house_b44
    refine Ok_i (fun c => ?_) (fun c => ?_)
    · have c := i_le c
      rw [e_pI H, Option.bind_some]
      obtain ⟨H1, f1⟩ := y_set (M' := mI M 175 25 (0 : Int32)) (S := h_C) H (i := 175) (k := 25) (by decide) rfl rfl y_mI1 (fun j a hj => y_mI2 hj) rfl (y_in (lo := 0) (hi := 20) rfl (by decide)) (by decide)
      rw [e_gR H1 (w := 185) rfl (by decide), Option.bind_some, e_aI H1 (t := 20) (i := 185) (n := 157) rfl (by decide) (by decide) (by decide), Option.bind_some]
      refine Ok_s ⟨⟨?_, fun j hj => ?_⟩, y_mI1, mI_ne (Or.inr (by decide))⟩
      · show (mI M 175 25 0).2.1 185 2 = _
        rw [mI_ne (Or.inl (by decide))]
        exact h3 2 (by omega)
      · rw [mI_ne (Or.inl (by decide))]
        exact h3 j (by omega)
    · have c' := i_nle c
      have cl : l1.toNatClampNeg = k := i_cl h
      rw [e_gR H (w := 185) rfl (by decide), Option.bind_some, e_gR H (w := 181) rfl (by decide), Option.bind_some, e_aI H (t := 20) (i := 181) (n := 157) rfl (by decide) (by omega) (by omega), Option.bind_some, e_sI H (i := 185) (n := 157) rfl (by omega) (by omega), Option.bind_some, cl]
      obtain ⟨H1, f1⟩ := y_set (M' := mI M 185 k (M.2.1 181 k)) (S := h_C) H (i := 185) (k := k) (by decide) rfl rfl y_mI1 (fun j a hj => y_mI2 hj) rfl (H.2.1 181 (by decide) k) (show Nat.testBit h_C 50 = true by decide)
      refine Ok_w (ih (k + 1) H1 (by rw [n_inc h (by omega), i_ofNat (by omega)]) (by omega) (by omega) (fun j hj => ?_)) (fun r q => ?_)
      · rw [mI_ne (j := 181) (Or.inl (by decide))]
        by_cases e : j = k
        · subst e
          exact y_mI1
        · rw [mI_ne (Or.inr e)]
          exact h3 j (by omega)
      · obtain ⟨⟨q1, q2⟩, q3, q4⟩ := q
        refine ⟨⟨q1.trans (mI_ne (Or.inl (by decide))), fun j hj => (q2 j hj).trans (mI_ne (Or.inl (by decide)))⟩, q3, q4.trans (mI_ne (Or.inl (by decide)))⟩
def he_H (r : hs_R) (M0 : gM) : Int32 × gM → Prop := fun w => w.2.2.1 175 1 = 0 ∧ (match r with
  | .inl er => (∃ v : Int32, w.1 = (-2 : Int32) - v ∧ v.toInt = (er : Int)) ∧ (∀ j, w.2.2.1 185 j = M0.2.1 185 j) ∧ w.2.2.1 175 25 = M0.2.1 175 25
  | .inr y => (w.1 = y.2 2 ∧ ∀ j, j < 157 → w.2.2.1 185 j = y.2 j) ∧ w.2.2.1 175 25 = 0)
def hs_0 (f : Nat → Int32) : Nat → Int32 := fun k => if k < 10 then 0 else f k
theorem E_houseC_L8 {T M0 : gM} (B : z_B T) : ∀ (n k : Nat) {l1 : Int32} {M : gM}, y_HT M → M.2.1 175 11 = 6 → n_b M = n_b T → n_s M = n_s T → l1.toInt = (k : Int) → k ≤ 10 → 10 - k < n → (∀ j, M.2.1 181 j = if j < k then 0 else M0.2.1 181 j) → ((∀ j, M.2.1 185 j = M0.2.1 185 j) ∧ M.2.1 175 25 = M0.2.1 175 25) → Ok (F_X12_house_L8 n (some 175) l1 M) (he_H (hs_text T (hs_0 (M0.2.1 181))) M0) := by
  intro n
  induction n with
  | zero => intro k l1 M H t hb hs h h1 h2 h3 h4; omega
  | succ n ih =>
    intro k l1 M H t hb hs h h1 h2 h3 h4
    show Ok (F_X12_house_b8 (F_X12_house_L8 n) (some 175) l1 M) _
    have z : (10 : Int32).toInt = 10 := rfl
    delta F_X12_house_b8
    refine Ok_i (fun c => ?_) (fun c => ?_)
    · have c := i_le c
      have k10 : k = 10 := by omega
      subst k10
      rw [e_gO H, Option.bind_some]
      refine Ok_b (E_hreadsAll (σ := hs_0 (M0.2.1 181)) B H t hb hs (funext h3) (fun k hk => if_pos hk)) (fun w q => ?_)
      obtain ⟨v2, M3⟩ := w
      obtain ⟨⟨H3, F3⟩, q1, q2⟩ := q
      dsimp only at H3 F3 q1 q2 ⊢
      have a185 : ∀ j, M3.2.1 185 j = M0.2.1 185 j := fun j => (y_fa (i := 185) F3 (by decide) (by decide) j).trans (h4.1 j)
      have a25 : M3.2.1 175 25 = M0.2.1 175 25 := (y_fk (i := 175) (k := 25) F3 (by decide)).trans h4.2
      generalize hs_text T (hs_0 (M0.2.1 181)) = r at q2 ⊢
      cases r with
      | inl er =>
        rw [if_pos q2.1, e_gI H3, Option.bind_some]
        exact Ok_s ⟨q1, ⟨_, rfl, q2.2⟩, a185, a25⟩
      | inr y =>
        rw [if_neg (by rw [q2.1]; decide)]
        refine Ok_w (E_houseC_L44 g_fuel 0 (l1 := 0) H3 rfl (by decide) (by decide) (fun j hj => absurd hj (Nat.not_lt_zero _))) (fun r q => ?_)
        obtain ⟨⟨u1, u2⟩, u3, u4⟩ := q
        rw [q2.2] at u1 u2
        exact ⟨u4.trans q1, ⟨u1, u2⟩, u3⟩
    · have c' := i_nle c
      have cl : l1.toNatClampNeg = k := i_cl h
      rw [e_gR H (w := 181) rfl (by decide), Option.bind_some, e_sI H (i := 181) (n := 157) rfl (by omega) (by omega), Option.bind_some, cl]
      obtain ⟨H1, f1⟩ := y_set (M' := mI M 181 k (0 : Int32)) (S := h_C) H (i := 181) (k := k) (v := 0) (by decide) rfl rfl y_mI1 (fun j a hj => y_mI2 hj) rfl f_tS0' (show Nat.testBit h_C 46 = true by decide)
      have o : ∀ i a, i ≠ 181 → (mI M 181 k (0 : Int32)).2.1 i a = M.2.1 i a := fun i a hi => mI_ne (Or.inl hi)
      refine ih (k + 1) H1 ((o _ _ (by decide)).trans t) ((funext (fun q => o 176 q (by decide))).trans hb) (by rw [← hs]; unfold n_s; rw [o 175 1 (by decide)]) (by rw [n_inc h (by omega), i_ofNat (by omega)]) (by omega) (by omega) (fun j => ?_) ⟨fun j => (o _ _ (by decide)).trans (h4.1 j), (o _ _ (by decide)).trans h4.2⟩
      by_cases e : j = k
      · subst e
        rw [y_mI1, if_pos (by omega)]
      · rw [mI_ne (Or.inr e), h3 j]
        by_cases e2 : j < k
        · rw [if_pos e2, if_pos (by omega)]
        · rw [if_neg e2, if_neg (by omega)]
/-- house() of the reference -/
theorem E_houseX {T M : gM} (B : z_B T) (H : y_HT M) (hb : n_b M = n_b T) (hs : n_s M = n_s T) : Ok (F_X12_house (some 175) M) (he_H (hs_text T (hs_0 (M.2.1 181))) M) := by
  delta F_X12_house F_X12_house_b0
  rw [e_pI H, Option.bind_some]
  obtain ⟨H1, f1⟩ := y_set (M' := mI M 175 11 (6 : Int32)) (S := h_C) H (i := 175) (k := 11) (by decide) rfl rfl y_mI1 (fun j a hj => y_mI2 hj) rfl (y_in (lo := 0) (hi := 6) rfl (by decide)) (by decide)
  have o : ∀ i a, i ≠ 175 ∨ a ≠ 11 → (mI M 175 11 (6 : Int32)).2.1 i a = M.2.1 i a := fun i a hi => mI_ne hi
  exact E_houseC_L8 B g_fuel 0 (l1 := 0) H1 y_mI1 ((funext (fun q => o 176 q (Or.inl (by decide)))).trans hb) (by rw [← hs]; unfold n_s; rw [o 175 1 (Or.inr (by decide))]) rfl (by decide) (by decide) (fun j => by rw [if_neg (Nat.not_lt_zero _)]; exact o _ _ (Or.inl (by decide))) ⟨fun j => o _ _ (Or.inl (by decide)), o _ _ (Or.inr (by decide))⟩
-- 7z.8l.law8
/-! what stands for ever in the class: kinds of its first cells, places that are fixed -/
def k_G (M : gM) : Prop := (∀ i, i ≠ 0 → i < 197 → g_k M i = f_K i) ∧ ∀ i, i ≠ 0 → i < 197 → (f_K i).1 ≠ 3 → ∀ k, q_pR (f_K i) k = true → M.2.2.2 i k = RC_510 i k
theorem k_G_first (L : Nat) (xs : Nat → Int32) : k_G (g_Mc L xs) := ⟨fun i h0 _ => f_Kof h0, fun i _ _ _ k _ => congrFun (congrFun (RR_510 L xs) i) k⟩
theorem k_Gc {b : Nat → Bool} {a : Nat} {M M' : gM} (G : k_G M) (hl : 197 ≤ M.1.length) (f : q_Fx b a M M') (ha : (f_K a).1 = 3) : k_G M' :=
  ⟨fun i h0 h => (f.1.2 i (by omega)).trans (G.1 i h0 h), fun i h0 h h3 k hk => (f.2.2.2 i (by omega) (fun e => h3 (by rw [e]; exact ha)) k (by rw [G.1 i h0 h]; exact hk)).trans (G.2 i h0 h h3 k hk)⟩
theorem k_Gr {S : Nat} {M M' : gM} (G : k_G M) (f : y_Fr S M M') : k_G M' := ⟨fun i h0 h => (q_k_of f.1.1).trans (G.1 i h0 h), fun i h0 h h3 k hk => by rw [f.1.2]; exact G.2 i h0 h h3 k hk⟩
set_option maxRecDepth 100000 in
theorem f_K151 : (List.range 4).all (fun k => (f_K (151 + 6 * k)).1 == 3) = true := by decide +kernel
theorem f_Kim {k : Nat} (hk : k < 4) : (f_K (151 + 6 * k)).1 = 3 := by
  have := List.all_eq_true.mp f_K151 k (List.mem_range.mpr hk)
  simpa using this
def k_LSb (s : Nat) : Bool := ((f_K s == (8, 0) && f_K (s + 1) == (20, 49)) && (f_K (s + 2) == (20, 49) && f_K (s + 3) == (20, 7)) && f_K (s + 4) == (20, 7)) && ((RC_510 s 0 == some (s + 1) && RC_510 s 1 == some (s + 2)) && RC_510 s 2 == some (s + 3) && RC_510 s 3 == some (s + 4))
def k_sts : List Nat := 9 :: 14 :: 143 :: ((List.range 20).map (fun k => 21 + 5 * k) ++ (List.range 4).map (fun k => 152 + 6 * k))
set_option maxRecDepth 100000 in
theorem k_LSb_all : k_sts.all (fun s => s != 0 && decide (s + 4 < 197) && k_LSb s) = true := by decide +kernel
theorem k_LS_of {M : gM} (G : k_G M) {s : Nat} (hs : s ∈ k_sts) : k_LS M s := by
  have h := List.all_eq_true.mp k_LSb_all s hs
  simp only [Bool.and_eq_true, bne_iff_ne, decide_eq_true_eq] at h
  obtain ⟨⟨h0, h1⟩, h2⟩ := h
  unfold k_LSb at h2
  simp only [Bool.and_eq_true, beq_iff_eq] at h2
  obtain ⟨⟨⟨⟨a0, a1⟩, a2, a3⟩, a4⟩, ⟨⟨b0, b1⟩, b2⟩, b3⟩ := h2
  have n3 : (f_K s).1 ≠ 3 := by rw [a0]; decide
  have g := fun k (hk : q_pR (8, 0) k = true) => G.2 s h0 (by omega) n3 k (by rw [a0]; exact hk)
  exact ⟨⟨(G.1 s h0 (by omega)).trans a0, ⟨(G.1 _ (by omega) (by omega)).trans a1, (G.1 _ (by omega) (by omega)).trans a2⟩, (G.1 _ (by omega) (by omega)).trans a3, (G.1 _ (by omega) (by omega)).trans a4⟩, ⟨(g 0 rfl).trans b0, (g 1 rfl).trans b1⟩, (g 2 rfl).trans b2, (g 3 rfl).trans b3⟩
def k_ks : List (Nat × (Nat × Nat)) := [(2, (11, 0)), (3, (25, 6)), (4, (10, 0)), (5, (20, 49)), (6, (5, 0)), (7, (21, 32)), (8, (21, 14)), (19, (4, 0)), (20, (24, 20)), (121, (26, 4)), (122, (20, 21)), (123, (0, 0)), (124, (21, 49)), (131, (9, 0)), (136, (2, 0)), (148, (7, 0))]
def k_rs : List (Nat × Nat × Nat) := [(2, 0, 131), (2, 1, 136), (2, 2, 148), (2, 3, 3), (2, 4, 4), (2, 5, 9), (2, 6, 14), (2, 7, 19), (2, 8, 121), (2, 9, 122), (2, 10, 123), (4, 0, 5), (4, 1, 6), (6, 0, 7), (6, 1, 8), (19, 0, 20), (123, 0, 124), (136, 0, 131), (136, 2, 143)]
set_option maxRecDepth 100000 in
theorem k_ks_all : k_ks.all (fun p => p.1 != 0 && decide (p.1 < 197) && f_K p.1 == p.2) = true := by decide +kernel
set_option maxRecDepth 100000 in
theorem k_rs_all : k_rs.all (fun p => (p.1 != 0 && decide (p.1 < 197)) && ((f_K p.1).1 != 3 && q_pR (f_K p.1) p.2.1) && RC_510 p.1 p.2.1 == some p.2.2) = true := by decide +kernel
theorem k_kd {M : gM} (G : k_G M) {i : Nat} {q : Nat × Nat} (h : (i, q) ∈ k_ks) : g_k M i = q := by
  have h := List.all_eq_true.mp k_ks_all _ h
  simp only [Bool.and_eq_true, bne_iff_ne, decide_eq_true_eq, beq_iff_eq] at h
  exact (G.1 i h.1.1 h.1.2).trans h.2
theorem k_rf {M : gM} (G : k_G M) {i k t : Nat} (h : (i, k, t) ∈ k_rs) : M.2.2.2 i k = some t := by
  have h := List.all_eq_true.mp k_rs_all _ h
  simp only [Bool.and_eq_true, bne_iff_ne, decide_eq_true_eq, beq_iff_eq] at h
  exact (G.2 i h.1.1.1 h.1.1.2 h.1.2.1 k h.1.2.2).trans h.2
/-! the relation with all this; house answers the same -/
def lw8 (L : Nat) (M : gM) : Prop := lw6 L M ∧ k_G M
theorem lw8_len {L : Nat} {M : gM} (R : lw_B L M) : 197 ≤ M.1.length := R.1.1.1.1.1
theorem lw8_c {b : Nat → Bool} {L : Nat} {M M' : gM} (R : lw_B L M) (G : k_G M) (f : q_Fr b M M') : k_G M' := k_Gc G (lw8_len R) (q_Fx_of (a := 151 + 6 * 0) f) (f_Kim (by decide))
def lw_31 (L : Nat) (M : gM) (o1 : Option (Int32 × gM)) (o2 : gM → Option (Int32 × gM)) : Prop := ∃ w1 w2 M1 M2, (o1 = some (w1, M1) ∧ lw_B L M1 ∧ M1.2.1 0 = M.2.1 0) ∧ o2 M1 = some (w2, M2) ∧ lw8 L M2 ∧ M2.2.1 0 = M.2.1 0
def lw_32 (L : Nat) (M : gM) (o1 : Option (Int32 × gM)) (o2 : gM → Option (Int32 × gM)) : Prop := ∃ w M1 M2, (o1 = some (w, M1) ∧ lw_B L M1 ∧ M1.2.1 0 = M.2.1 0) ∧ o2 M1 = some (w, M2) ∧ lw8 L M2 ∧ M2.2.1 0 = M.2.1 0
theorem lw8_feed {L : Nat} {v1 v2 v3 v4 v5 : Int32} {M : gM} (R : lw8 L M) : lw_32 L M (F_X11_feed (some 2) v1 v2 v3 v4 v5 M) (F_X12_feed (some 175) v1 v2 v3 v4 v5) := by
  obtain ⟨w, M1, M2, ⟨e1, B1, s1⟩, e2, R2, s2⟩ := lw6_feed (v1 := v1) (v2 := v2) (v3 := v3) (v4 := v4) (v5 := v5) R.1
  obtain ⟨r1, er1, z1⟩ := S_X11_feed (l1 := v1) (l2 := v2) (l3 := v3) (l4 := v4) (l5 := v5) R.1.1.1.1.1.1 R.1.1.1.2.1.1.1
  have x1 := o_eq er1 e1
  subst x1
  obtain ⟨r2, er2, z2⟩ := S_X12_feed (l1 := v1) (l2 := v2) (l3 := v3) (l4 := v4) (l5 := v5) B1.1.1.2
  have x2 := o_eq er2 e2
  subst x2
  exact ⟨w, M1, M2, ⟨e1, B1, s1⟩, e2, ⟨R2, k_Gr (lw8_c R.1.1.1 R.2 z1.2.2) z2.2.2⟩, s2⟩
theorem lw8_end {L : Nat} {l : Int32} {M : gM} (R : lw8 L M) : lw_32 L M (F_X11_end (some 2) l M) (F_X12_end (some 175) l) := by
  obtain ⟨w, M1, M2, ⟨e1, B1, s1⟩, e2, R2, s2⟩ := lw6_end (l := l) R.1
  obtain ⟨r1, er1, z1⟩ := S_X11_end (l1 := l) R.1.1.1.1.1.1 R.1.1.1.2.1.1.1
  have x1 := o_eq er1 e1
  subst x1
  obtain ⟨r2, er2, z2⟩ := S_X12_end (l1 := l) B1.1.1.2
  have x2 := o_eq er2 e2
  subst x2
  exact ⟨w, M1, M2, ⟨e1, B1, s1⟩, e2, ⟨R2, k_Gr (lw8_c R.1.1.1 R.2 z1.2.2) z2.2.2⟩, s2⟩
theorem lw8_rule {L : Nat} {M : gM} (R : lw8 L M) : lw_32 L M (F_X11_rule (some 2) M) (F_X12_rule (some 175)) := by
  obtain ⟨w, M1, M2, ⟨e1, B1, s1⟩, e2, R2, s2⟩ := lw6_rule R.1
  obtain ⟨r1, er1, z1⟩ := S_X11_rule R.1.1.1.1.1.1 R.1.1.1.2.1.1.1
  have x1 := o_eq er1 e1
  subst x1
  obtain ⟨r2, er2, z2⟩ := S_X12_rule B1.1.1.2 B1.1.2
  have x2 := o_eq er2 e2
  subst x2
  exact ⟨w, M1, M2, ⟨e1, B1, s1⟩, e2, ⟨R2, k_Gr (lw8_c R.1.1.1 R.2 z1.2.2) z2.1.2⟩, s2⟩
theorem lw8_force {L : Nat} {l : Int32} {M : gM} (R : lw8 L M) : lw_32 L M (F_X11_force (some 2) l M) (F_X12_force (some 175) l) := by
  obtain ⟨w, M1, M2, ⟨e1, B1, s1⟩, e2, R2, s2⟩ := lw6_force (l := l) R.1
  obtain ⟨r1, er1, z1⟩ := S_X11_force (l1 := l) R.1.1.1.1.1.1 R.1.1.1.2.1.1.1
  have x1 := o_eq er1 e1
  subst x1
  obtain ⟨r2, er2, z2, _⟩ := S_X12_force (l1 := l) B1.1.1.2 B1.1.2
  have x2 := o_eq er2 e2
  subst x2
  exact ⟨w, M1, M2, ⟨e1, B1, s1⟩, e2, ⟨R2, k_Gr (lw8_c R.1.1.1 R.2 z1.2.2) z2.2.2⟩, s2⟩
theorem lw8_seed {L : Nat} {l : Int32} {M : gM} (R : lw8 L M) : lw_32 L M (F_X11_seed (some 2) l M) (F_X12_seed (some 175) l) := by
  obtain ⟨w, M1, M2, ⟨e1, B1, s1⟩, e2, R2, s2⟩ := lw6_seed (l := l) R.1
  have G1 : k_G M1 := by
    have E1 := S_X11_seed (l1 := l) R.1.1.1.2.1.1.1
    have x1 := o_eq E1 e1
    by_cases h : 0 ≤ l
    · rw [if_pos h] at x1
      cases x1
      exact R.2
    · rw [if_neg h] at x1
      cases x1
      exact R.2
  obtain ⟨r2, er2, z2⟩ := S_X12_seed (l1 := l) B1.1.1.2
  have x2 := o_eq er2 e2
  subst x2
  exact ⟨w, M1, M2, ⟨e1, B1, s1⟩, e2, ⟨R2, k_Gr G1 z2.1.2⟩, s2⟩
theorem lw8_image {L : Nat} {l : Int32} {M : gM} (R : lw8 L M) : lw_31 L M (F_X11_image (some 2) l M) (F_X12_image (some 175) l) := by
  obtain ⟨w1, w2, M1, M2, ⟨e1, B1, s1⟩, e2, R2, s2⟩ := lw6_image (l := l) R.1
  obtain ⟨r1, er1, z1, z2⟩ := S_X11_image (l1 := l) R.1.1.1.1.1.1 R.1.1.1.2.1.1.1 R.1.1.1.2.1.1.2
  have x1 := o_eq er1 e1
  subst x1
  have G1 : k_G M1 := by
    by_cases c : 0 ≤ l.toInt ∧ l.toInt ≤ 3
    · obtain ⟨n, hn⟩ : ∃ n : Nat, l.toInt = (n : Int) := ⟨l.toInt.toNat, by omega⟩
      have hc : l.toNatClampNeg = n := i_cl hn
      have f := (z2 c).2.1
      rw [hc] at f
      exact k_Gc R.2 (lw8_len R.1.1.1) f (f_Kim (by omega))
    · have h := z1 c
      dsimp only at h
      rw [h]
      exact R.2
  obtain ⟨r2, er2, y2, _⟩ := S_X12_image (l1 := l) B1.1.1.2 B1.1.2
  have x2 := o_eq er2 e2
  subst x2
  exact ⟨w1, w2, M1, M2, ⟨e1, B1, s1⟩, e2, ⟨R2, k_Gr G1 y2.2⟩, s2⟩
theorem lw8_back {L : Nat} {l : Int32} {M : gM} (R : lw8 L M) : lw_31 L M (F_X11_back (some 2) l M) (F_X12_back (some 175) l) := by
  obtain ⟨w1, w2, M1, M2, ⟨e1, B1, s1⟩, e2, R2, s2⟩ := lw6_back (l := l) R.1
  obtain ⟨r1, er1, z1, z2⟩ := S_X11_back (l1 := l) R.1.1.1.1.1.1 R.1.1.1.2.1.1.1 R.1.1.1.2.1.1.2
  have x1 := o_eq er1 e1
  subst x1
  have G1 : k_G M1 := by
    by_cases c : (0 ≤ l.toInt ∧ l.toInt ≤ 3) ∧ M.2.2.2 (151 + 6 * l.toNatClampNeg) 1 ≠ none
    · exact lw8_c R.1.1.1 R.2 (z2 c).2.1
    · have h := z1 c
      dsimp only at h
      rw [h]
      exact R.2
  obtain ⟨r2, er2, y2, _⟩ := S_X12_back (l1 := l) B1.1.1.2 B1.1.2
  have x2 := o_eq er2 e2
  subst x2
  exact ⟨w1, w2, M1, M2, ⟨e1, B1, s1⟩, e2, ⟨R2, k_Gr G1 y2.2⟩, s2⟩
theorem lw8_house {L : Nat} {M : gM} (R : lw8 L M) : lw_32 L M (F_X11_house (some 2) M) (F_X12_house (some 175)) := by
  obtain ⟨w1, w2, M1, M2, ⟨e1, B1, s1⟩, e2, R2, s2⟩ := lw6_house R.1
  obtain ⟨r1, er1, z1⟩ := S_X11_house R.1.1.1.1.1.1 R.1.1.1.2.1.1.1
  have x1 := o_eq er1 e1
  subst x1
  obtain ⟨r2, er2, z2⟩ := S_X12_house B1.1.1.2
  have x2 := o_eq er2 e2
  subst x2
  have G := R.2
  have G2 : k_G M2 := k_Gr (lw8_c R.1.1.1 R.2 z1.2.2) z2.2
  obtain ⟨⟨n1, n2⟩, n4⟩ := lw_n R.1.1
  have B : z_B M := ⟨R.1.1.2.2.2, n4⟩
  have rc := lw_rc (q_Fx_of (a := 151) z1.2.2)
  dsimp only at rc
  obtain ⟨r3, er3, _, c3⟩ := C_houseX (T := M) (e := M.1.length) (σ := hs_0 (M.2.1 181)) ⟨⟨R.1.1.1.2.2.1, B⟩, R.1.1.2.1.1, n2⟩ rfl (lw8_len R.1.1.1) (k_kd G (by decide)) ⟨⟨k_rf G (by decide), k_rf G (by decide)⟩, k_rf G (by decide), k_rf G (by decide)⟩ (k_kd G (by decide)) (k_kd G (by decide)) (k_rf G (by decide)) (k_rf G (by decide)) (k_LS_of G (by decide)) (k_LS_of G (by decide)) (fun k hk => if_pos hk)
  have x3 := o_eq er3 e1
  subst x3
  obtain ⟨r4, er4, _, c4⟩ := E_houseX (T := M) (M := M1) B B1.1.1.2 (rc 176 (by decide)) (by unfold n_s; rw [rc 175 (by decide)])
  have x4 := o_eq er4 e2
  subst x4
  rw [rc 181 (by decide)] at c4
  dsimp only at c3 c4
  have ew : w2 = w1 := by
    generalize hs_text M (hs_0 (M.2.1 181)) = t at c3 c4
    cases t with
    | inl er =>
      obtain ⟨⟨u, a1, a2⟩, _⟩ := c3
      obtain ⟨⟨u2, b1, b2⟩, _⟩ := c4
      have : u2 = u := Int32.toInt_inj.mp (by omega)
      rw [a1, b1, this]
    | inr y =>
      rw [c3.1.1, c4.1.1]
  subst ew
  exact ⟨w2, M1, M2, ⟨e1, B1, s1⟩, e2, ⟨R2, G2⟩, s2⟩
theorem lw8_cPI {b : Nat → Bool} {L : Nat} {lo hi : Int} {M : gM} {o : Option (Int32 × gM)} {β : Type} {f : Int32 × gM → Option β} {Q : β → Prop} (R : lw8 L M) (h1 : b 12 = true) (h2 : b 100 = true) (h3 : b 101 = true) (h13 : b 13 = true) (h14 : b 14 = true) (h : Ok o (q_PI b M lo hi)) (k : ∀ v M', lw8 L M' → M'.2.1 0 = M.2.1 0 → Ok (f (v, M')) Q) : Ok (o.bind f) Q := by
  refine Ok_b h (fun r z => ?_)
  obtain ⟨v, M'⟩ := r
  have fx := q_Fx_of (a := 151) z.2.2
  exact k v M' ⟨⟨lw_cls R.1.1 z.2.1 z.2.2 h1 h2 h3, g6_of R.1.2 (g6_cC R.1.1.1 z.2.2 (g6_b R.1.1.1 z.2.2 h13) (g6_b R.1.1.1 z.2.2 h14)) (g6_cE fx)⟩, lw8_c R.1.1.1 R.2 z.2.2⟩ (lw_s_cls fx)
theorem lw8_cPX {L : Nat} {lo hi : Int} {M : gM} {o : Option (Int32 × gM)} {β : Type} {f : Int32 × gM → Option β} {Q : β → Prop} (R : lw8 L M) (h : Ok o (q_PX M lo hi 2 (M.2.1 2 14))) (k : ∀ v M', lw8 L M' → M'.2.1 0 = M.2.1 0 → Ok (f (v, M')) Q) : Ok (o.bind f) Q := by
  refine Ok_b h (fun r z => ?_)
  obtain ⟨v, M'⟩ := r
  have fx := q_Fx_of (a := 151) z.1.2.2
  exact k v M' ⟨⟨lw_cls R.1.1 z.1.2.1 z.1.2.2 rfl rfl rfl, g6_of R.1.2 (g6_cC R.1.1.1 z.1.2.2 (g6_b R.1.1.1 z.1.2.2 rfl) z.2) (g6_cE fx)⟩, lw8_c R.1.1.1 R.2 z.1.2.2⟩ (lw_s_cls fx)
theorem lw8_rPI {S L : Nat} {lo hi : Int} {M : gM} {o : Option (Int32 × gM)} {β : Type} {f : Int32 × gM → Option β} {Q : β → Prop} (R : lw8 L M) (hW : Nat.land S y_wb = 0) (hS : Nat.land S (2 ^ 1 + 2 ^ 2 + 2 ^ 41) = 0) (h6 : Nat.land S (2 ^ 21 + 2 ^ 22 + 2 ^ 59 + 2 ^ 60 + 2 ^ 61) = 0) (h : Ok o (y_PI S M lo hi)) (k : ∀ v M', lw8 L M' → M'.2.1 0 = M.2.1 0 → Ok (f (v, M')) Q) : Ok (o.bind f) Q := by
  refine Ok_b h (fun r z => ?_)
  obtain ⟨v, M'⟩ := r
  exact k v M' ⟨⟨lw_refW R.1.1 z.2.1 z.2.2 hW hS, g6_of R.1.2 (g6_rC z.2.2) (g6_rE z.2.2 h6)⟩, k_Gr R.2 z.2.2⟩ (lw_s_ref z.2.2)
theorem lw8_first (L : Nat) (xs : Nat → Int32) : lw8 L (g_Mc L xs) := ⟨lw6_first L xs, k_G_first L xs⟩
-- 7z9a.bits
/-! bits -/
theorem is_get {a v : Int32} {k : Nat} (h : v.toInt = (k : Int)) (hk : k ≤ 9) : hs_is a v = if a.toBitVec.getLsbD k = true then 1 else 0 := by
  have hv : v = Int32.ofNat k := i_of h (by omega)
  subst hv
  have key : ∀ s : Nat, s < 32 → (a.toBitVec.sshiftRight s &&& 1#32) = if a.toBitVec.getLsbD s = true then 1#32 else 0#32 := by
    intro s hs
    refine BitVec.eq_of_getLsbD_eq (fun i hi => ?_)
    rw [BitVec.getLsbD_and, BitVec.getLsbD_sshiftRight]
    by_cases h0 : i = 0
    · subst h0
      by_cases c : a.toBitVec.getLsbD s = true
      · rw [if_pos c]
        simp [hs, c]
      · rw [if_neg c]
        have c' := b_ff c
        simp [hs]
        rw [← BitVec.getLsbD_eq_getElem]
        exact c'
    · have e1 : (1#32).getLsbD i = false := by
        rw [BitVec.getLsbD_one]
        simp [h0]
      rw [e1, Bool.and_false]
      by_cases c : a.toBitVec.getLsbD s = true
      · rw [if_pos c, e1]
      · rw [if_neg c]
        simp
  unfold hs_is
  refine Int32.toBitVec_inj.mp ?_
  have e : ((a >>> (Int32.ofNat k &&& 31)) &&& (1 : Int32)).toBitVec = a.toBitVec.sshiftRight k &&& 1#32 := by
    rcases (by omega : k = 0 ∨ k = 1 ∨ k = 2 ∨ k = 3 ∨ k = 4 ∨ k = 5 ∨ k = 6 ∨ k = 7 ∨ k = 8 ∨ k = 9) with e | e | e | e | e | e | e | e | e | e <;> subst e <;> rfl
  rw [e, key k (by omega)]
  by_cases c : a.toBitVec.getLsbD k = true
  · rw [if_pos c, if_pos c]
    rfl
  · rw [if_neg c, if_neg c]
    rfl
theorem bit_get {v : Int32} {k i : Nat} (h : v.toInt = (k : Int)) (hk : k ≤ 9) : (hs_bit v).toBitVec.getLsbD i = decide (k = i) := by
  have hv : v = Int32.ofNat k := i_of h (by omega)
  subst hv
  have e : (hs_bit (Int32.ofNat k)).toBitVec = BitVec.twoPow 32 k := by
    rcases (by omega : k = 0 ∨ k = 1 ∨ k = 2 ∨ k = 3 ∨ k = 4 ∨ k = 5 ∨ k = 6 ∨ k = 7 ∨ k = 8 ∨ k = 9) with e | e | e | e | e | e | e | e | e | e <;> subst e <;> decide
  rw [e, BitVec.getLsbD_twoPow]
  simp
  omega
theorem or_get {a b : Int32} {i : Nat} : (a ||| b).toBitVec.getLsbD i = (a.toBitVec.getLsbD i || b.toBitVec.getLsbD i) := by
  rw [Int32.toBitVec_or, BitVec.getLsbD_or]
theorem and_get {a b : Int32} {i : Nat} : (a &&& b).toBitVec.getLsbD i = (a.toBitVec.getLsbD i && b.toBitVec.getLsbD i) := by
  rw [Int32.toBitVec_and, BitVec.getLsbD_and]
theorem i_or0 {a : Int32} : a ||| 0 = a := by
  refine Int32.toBitVec_inj.mp ?_
  rw [Int32.toBitVec_or]
  show a.toBitVec ||| 0#32 = a.toBitVec
  simp
/-- the bits of what is true of numbers below n -/
def s_bs (f : Nat → Bool) : Nat → Int32
  | 0 => 0
  | k + 1 => if f k = true then s_bs f k ||| hs_bit (Int32.ofNat k) else s_bs f k
theorem bs_succ {f : Nat → Bool} {j : Nat} : s_bs f (j + 1) = if f j = true then s_bs f j ||| hs_bit (Int32.ofNat j) else s_bs f j := rfl
theorem bs_get {f : Nat → Bool} {i : Nat} : ∀ {k : Nat}, k ≤ 10 → (s_bs f k).toBitVec.getLsbD i = (decide (i < k) && f i) := by
  intro k
  induction k with
  | zero =>
    intro _
    show (0#32).getLsbD i = _
    simp
  | succ k ih =>
    intro hk
    have h := ih (by omega)
    unfold s_bs
    by_cases c : f k = true
    · rw [if_pos c, or_get, h, bit_get (i_ofNat (by omega)) (by omega)]
      by_cases e : k = i
      · subst e
        simp [c]
      · by_cases l : i < k
        · simp [l, e, show i < k + 1 by omega]
        · simp [l, e, show ¬ i < k + 1 by omega]
    · rw [if_neg c, h]
      by_cases e : k = i
      · subst e
        simp at c
        simp [c]
      · by_cases l : i < k
        · simp [l, show i < k + 1 by omega]
        · simp [l, show ¬ i < k + 1 by omega]
theorem bs_is {f : Nat → Bool} {i k : Nat} {v : Int32} (h : v.toInt = (i : Int)) (hi : i < k) (hk : k ≤ 10) : hs_is (s_bs f k) v = if f i = true then 1 else 0 := by
  rw [is_get h (by omega), bs_get hk]
  simp [hi]
theorem bs_congr {f g : Nat → Bool} : ∀ {k : Nat}, (∀ i, i < k → f i = g i) → s_bs f k = s_bs g k := by
  intro k
  induction k with
  | zero => intro _; rfl
  | succ k ih =>
    intro h
    unfold s_bs
    rw [h k (by omega), ih (fun i hi => h i (by omega))]
theorem bs_zero {f : Nat → Bool} {k : Nat} (hk : k ≤ 10) : s_bs f k = 0 ↔ ∀ i, i < k → f i = false := by
  constructor
  · intro h i hi
    have e := bs_get (f := f) (i := i) hk
    rw [h] at e
    have z : (0 : Int32).toBitVec.getLsbD i = false := by
      show (0#32).getLsbD i = false
      simp
    rw [z] at e
    simp [hi] at e
    exact e
  · intro h
    rw [bs_congr (g := fun _ => false) h]
    have : ∀ n, s_bs (fun _ => false) n = 0 := by
      intro n
      induction n with
      | zero => rfl
      | succ n ih => unfold s_bs; rw [if_neg (by decide), ih]
    exact this k
/-! what is known and HELD, of the cells alone -/
def s_va (σ : Nat → Int32) (h t : Nat) : Int32 := σ (59 + 14 * h + 2 * t)
def s_st (σ : Nat → Int32) (h t : Nat) : Int32 := σ (60 + 14 * h + 2 * t)
def s_kn (σ : Nat → Int32) (h t : Nat) : Bool := decide (0 ≤ (s_va σ h t).toInt)
def s_same (σ : Nat → Int32) (h t : Nat) : Bool := (List.range (hs_m σ)).any (fun o => o != h && s_va σ o t == s_va σ h t)
def s_ho (σ : Nat → Int32) (h t : Nat) : Bool := decide ((σ (13 + 4 * t)).toInt < 0) && (s_kn σ h t && (s_va σ h t == σ (10 + 4 * t) || s_same σ h t))
def s_hs (σ : Nat → Int32) (t : Nat) : Int32 := s_bs (fun h => s_ho σ h t) (hs_m σ)
def s_hb (σ : Nat → Int32) (h : Nat) : Int32 := s_bs (fun t => s_ho σ h t) (hs_n σ)
def s_sd (σ : Nat → Int32) : Int32 := s_bs (fun t => decide ((σ (13 + 4 * t)).toInt < 0)) (hs_n σ)
/-- cells that can be -/
def s_V (σ : Nat → Int32) : Prop := ((0 ≤ (σ 1).toInt ∧ (σ 1).toInt ≤ 7) ∧ 0 ≤ (σ 2).toInt ∧ (σ 2).toInt ≤ 7) ∧
  (∀ h t : Nat, (h : Int) < (σ 2).toInt → t < 7 → (s_va σ h t = -1 ∧ s_st σ h t = 0) ∨ ((0 ≤ (s_va σ h t).toInt ∧ (s_va σ h t).toInt ≤ 9) ∧ 1 ≤ (s_st σ h t).toInt ∧ (s_st σ h t).toInt ≤ 99)) ∧
  (∀ t : Nat, (t : Int) < (σ 1).toInt → ((0 ≤ (σ (10 + 4 * t)).toInt ∧ (σ (10 + 4 * t)).toInt ≤ 9) ∧ 0 ≤ (σ (11 + 4 * t)).toInt ∧ (σ (11 + 4 * t)).toInt ≤ 20) ∧ (0 ≤ (σ (12 + 4 * t)).toInt ∧ (σ (12 + 4 * t)).toInt ≤ 99) ∧ -1 ≤ (σ (13 + 4 * t)).toInt) ∧
  ∀ h : Nat, (h : Int) < (σ 2).toInt → (0 ≤ (σ (38 + 2 * h)).toInt ∧ (σ (38 + 2 * h)).toInt ≤ 99) ∧ 0 ≤ (σ (39 + 2 * h)).toInt ∧ (σ (39 + 2 * h)).toInt ≤ 100
theorem s_Vn {σ : Nat → Int32} (V : s_V σ) : ((σ 1).toInt = (hs_n σ : Int) ∧ hs_n σ ≤ 7) ∧ (σ 2).toInt = (hs_m σ : Int) ∧ hs_m σ ≤ 7 := by
  obtain ⟨⟨a, b⟩, _⟩ := V
  have e1 := i_clamp (x := σ 1) a.1
  have e2 := i_clamp (x := σ 2) b.1
  unfold hs_n hs_m
  omega
theorem s_kn0 {σ : Nat → Int32} {h t : Nat} (V : s_V σ) (hh : h < hs_m σ) (ht : t < 7) (c : s_kn σ h t = false) : s_va σ h t = -1 ∧ s_st σ h t = 0 := by
  have n := s_Vn V
  rcases V.2.1 h t (by omega) ht with h1 | h1
  · exact h1
  · have := of_decide_eq_false c
    omega
theorem s_kn1 {σ : Nat → Int32} {h t : Nat} (V : s_V σ) (hh : h < hs_m σ) (ht : t < 7) (c : s_kn σ h t = true) : (0 ≤ (s_va σ h t).toInt ∧ (s_va σ h t).toInt ≤ 9) ∧ 1 ≤ (s_st σ h t).toInt ∧ (s_st σ h t).toInt ≤ 99 := by
  have n := s_Vn V
  have c := of_decide_eq_true c
  rcases V.2.1 h t (by omega) ht with h1 | h1
  · rw [h1.1] at c
    exact absurd c (by decide)
  · exact h1
/-- a House at e, a State at s: the cells' -/
def k_X (M : gM) (s e : Nat) (σ : Nat → Int32) : Prop := (k_LE M e ∧ k_LS M s) ∧ (k_E M e σ ∧ k_S M s σ) ∧ s_V σ
theorem k_Xst {M : gM} {s e h t : Nat} {σ : Nat → Int32} (X : k_X M s e σ) (hh : h < hs_m σ) (ht : t < 7) : M.2.1 (s + 2) (7 * h + t) = s_st σ h t ∧ (s_kn σ h t = true → M.2.1 (s + 1) (7 * h + t) = s_va σ h t) := by
  have n := s_Vn X.2.2
  rcases (X.2.1.2.2.1 h (by omega)).2 t ht with c | c
  · exact ⟨c.2.2, fun _ => c.2.1⟩
  · refine ⟨c.1.trans c.2.2.symm, fun k => ?_⟩
    have k := of_decide_eq_true k
    have e : s_va σ h t = -1 := c.2.1
    rw [e] at k
    exact absurd k (by decide)
theorem k_Xpos {M : gM} {s e h t : Nat} {σ : Nat → Int32} (X : k_X M s e σ) (hh : h < hs_m σ) (ht : t < 7) : (s_st σ h t ≤ 0 ↔ s_kn σ h t = false) ∧ (s_st σ h t = 0 ↔ s_kn σ h t = false) := by
  by_cases c : s_kn σ h t = true
  · have k := s_kn1 X.2.2 hh ht c
    refine ⟨⟨fun h => ?_, fun h => ?_⟩, fun h => ?_, fun h => ?_⟩
    · have := i_le h
      have z0 : (0 : Int32).toInt = 0 := rfl
      omega
    · rw [c] at h
      cases h
    · rw [h] at k
      exact absurd k.2.1 (by decide)
    · rw [c] at h
      cases h
  · have c := b_ff c
    have k := s_kn0 X.2.2 hh ht c
    rw [k.2]
    exact ⟨⟨fun _ => c, fun _ => by decide⟩, fun _ => c, fun _ => rfl⟩
/-- a cell's place -/
theorem k_ix {l1 l2 : Int32} {h t : Nat} (h1 : l1.toInt = (h : Int)) (h2 : l2.toInt = (t : Int)) (hh : h < 7) (ht : t < 7) : (l1 * (7 : Int32) + l2).toInt = ((7 * h + t : Nat) : Int) := by
  have a1 := i_mulR (x := l1) (c := (7 : Int32)) (n := 7) rfl (by omega) (by omega)
  have a2 := i_add (x := l1 * (7 : Int32)) (y := l2) (by omega) (by omega)
  omega
-- 7z9b.cpure
/-! the class: what is known and HELD -/
theorem C_bit {a b : Int32} {M : gM} : F_X11_bit a b M = some (hs_is a b) := rfl
theorem k_XE {M : gM} {s e : Nat} {σ : Nat → Int32} (X : k_X M s e σ) : (g_k M e = (1, 0) ∧ (M.2.1 e 6 = σ 1 ∧ M.2.1 e 7 = σ 2) ∧ M.2.1 e 9 = σ 7 ∧ M.2.1 e 10 = σ 6) ∧ ((g_k M s = (8, 0) ∧ g_k M (s + 1) = (20, 49) ∧ g_k M (s + 2) = (20, 49)) ∧ g_k M (s + 3) = (20, 7) ∧ g_k M (s + 4) = (20, 7)) ∧ (M.2.2.2 s 0 = some (s + 1) ∧ M.2.2.2 s 1 = some (s + 2)) ∧ M.2.2.2 s 2 = some (s + 3) ∧ M.2.2.2 s 3 = some (s + 4) :=
  ⟨⟨X.1.1.1, X.2.1.1.1.1, X.2.1.1.2.1⟩, ⟨⟨X.1.2.1.1, X.1.2.1.2.1⟩, X.1.2.1.2.2⟩, X.1.2.2⟩
theorem k_XR {M : gM} {s e : Nat} {σ : Nat → Int32} (X : k_X M s e σ) {i : Nat} (hi : i < 5) : g_k M (e + 1 + i) = (20, 7) ∧ M.2.2.2 e i = some (e + 1 + i) := X.1.1.2 i hi
theorem i_le_n {l v : Int32} {j n : Nat} (hl : l.toInt = (j : Int)) (hv : v.toInt = (n : Int)) : v ≤ l ↔ n ≤ j := by
  rw [Int32.le_iff_toInt_le]
  omega
theorem i_nx {l : Int32} {j : Nat} (hl : l.toInt = (j : Int)) (h : j ≤ 1000) : (l + 1).toInt = ((j + 1 : Nat) : Int) := by
  rw [n_inc hl h, i_ofNat (by omega)]
theorem i_nt {l : Int32} {j : Nat} (hl : l.toInt = (j : Int)) (h : j ≤ 1000) : l = Int32.ofNat j := i_of hl (by omega)
theorem C_knownBy_L5 {M : gM} {s e h : Nat} {σ : Nat → Int32} {l2 : Int32} (X : k_X M s e σ) (h2 : l2.toInt = (h : Int)) (hh : h < hs_m σ) : ∀ (n j : Nat) {l4 : Int32}, l4.toInt = (j : Int) → j ≤ hs_n σ → hs_n σ - j < n → F_X8_knownBy_L5 M n (some s) (some e) l2 (s_bs (fun t => s_kn σ h t) j) l4 = some (s_bs (fun t => s_kn σ h t) (hs_n σ)) := by
  intro n
  induction n with
  | zero => intro j l4 h4 hj hn; omega
  | succ n ih =>
    intro j l4 h4 hj hn
    obtain ⟨⟨ke, ⟨e6, e7⟩, _⟩, ⟨⟨ks, k1, k2⟩, k3, k4⟩, ⟨r0, r1⟩, r2, r3⟩ := k_XE X
    have nn := s_Vn X.2.2
    show F_X8_knownBy_b5 (F_X8_knownBy_L5 M n) M (some s) (some e) l2 _ l4 = _
    delta F_X8_knownBy_b5 F_X8_knownBy_b36
    rw [t_gI ke, Option.bind_some, e6]
    have c0 := i_le_n h4 nn.1.1
    by_cases c : hs_n σ ≤ j
    · have : j = hs_n σ := by omega
      subst this
      rw [if_pos (c0.mpr c)]
    · have ix := k_ix h2 h4 (by omega) (by omega)
      rw [if_neg (mt c0.mp c), t_gR ks r1, Option.bind_some, t_aI k2 (by omega) (by omega), Option.bind_some, i_cl ix, (k_Xst X hh (by omega)).1]
      have nx := i_nx h4 (by omega)
      have ih := ih (j + 1) nx (by omega) (by omega)
      rw [bs_succ] at ih
      have kp := (k_Xpos X hh (t := j) (by omega)).1
      by_cases k : s_kn σ h j = true
      · rw [if_neg (fun z => by rw [kp.mp z] at k; cases k)]
        rw [if_pos k, ← i_nt h4 (by omega)] at ih
        exact ih
      · rw [if_pos (kp.mpr (b_ff k))]
        rw [if_neg k] at ih
        exact ih
theorem C_knownBy {M : gM} {s e h : Nat} {σ : Nat → Int32} {l2 : Int32} (X : k_X M s e σ) (h2 : l2.toInt = (h : Int)) (hh : h < hs_m σ) : F_X8_knownBy (some s) (some e) l2 M = some (s_bs (fun t => s_kn σ h t) (hs_n σ)) := by
  delta F_X8_knownBy F_X8_knownBy_b0
  have := (s_Vn X.2.2).1.2
  exact C_knownBy_L5 X h2 hh g_fuel 0 (l4 := 0) rfl (Nat.zero_le _) (n_fu (by omega))
theorem C_knowersAs_L6 {M : gM} {s e t : Nat} {σ : Nat → Int32} {l2 w : Int32} (X : k_X M s e σ) (h2 : l2.toInt = (t : Int)) (ht : t < 7) : ∀ (n j : Nat) {l5 : Int32}, l5.toInt = (j : Int) → j ≤ hs_m σ → hs_m σ - j < n → F_X8_knowersAs_L6 M n (some s) (some e) l2 w (s_bs (fun h => s_kn σ h t && s_va σ h t == w) j) l5 = some (s_bs (fun h => s_kn σ h t && s_va σ h t == w) (hs_m σ)) := by
  intro n
  induction n with
  | zero => intro j l5 h5 hj hn; omega
  | succ n ih =>
    intro j l5 h5 hj hn
    obtain ⟨⟨ke, ⟨e6, e7⟩, _⟩, ⟨⟨ks, k1, k2⟩, k3, k4⟩, ⟨r0, r1⟩, r2, r3⟩ := k_XE X
    have nn := s_Vn X.2.2
    show F_X8_knowersAs_b6 (F_X8_knowersAs_L6 M n) M (some s) (some e) l2 w _ l5 = _
    delta F_X8_knowersAs_b6 F_X8_knowersAs_b54
    rw [t_gI ke, Option.bind_some, e7]
    have c0 := i_le_n h5 nn.2.1
    by_cases c : hs_m σ ≤ j
    · have : j = hs_m σ := by omega
      subst this
      rw [if_pos (c0.mpr c)]
    · have hh : j < hs_m σ := by omega
      have ix := k_ix h5 h2 (by omega) (by omega)
      rw [if_neg (mt c0.mp c), t_gR ks r1, Option.bind_some, t_aI k2 (by omega) (by omega), Option.bind_some, i_cl ix, (k_Xst X hh (by omega)).1]
      have nx := i_nx h5 (by omega)
      have ih := ih (j + 1) nx (by omega) (by omega)
      rw [bs_succ] at ih
      have kp := (k_Xpos X hh (t := t) (by omega)).1
      by_cases k : s_kn σ j t = true
      · rw [if_neg (fun z => by rw [kp.mp z] at k; cases k), t_gR ks r0, Option.bind_some, t_aI k1 (by omega) (by omega), Option.bind_some, i_cl ix, (k_Xst X hh (by omega)).2 k]
        by_cases cw : s_va σ j t = w
        · rw [if_pos cw]
          rw [if_pos (by simp [k, cw]), ← i_nt h5 (by omega)] at ih
          exact ih
        · rw [if_neg cw]
          rw [if_neg (by simp [cw])] at ih
          exact ih
      · rw [if_pos (kp.mpr (b_ff k))]
        rw [if_neg (by simp [k])] at ih
        exact ih
theorem C_knowersAs {M : gM} {s e t : Nat} {σ : Nat → Int32} {l2 w : Int32} (X : k_X M s e σ) (h2 : l2.toInt = (t : Int)) (ht : t < 7) : F_X8_knowersAs (some s) (some e) l2 w M = some (s_bs (fun h => s_kn σ h t && s_va σ h t == w) (hs_m σ)) := by
  delta F_X8_knowersAs F_X8_knowersAs_b0
  have := (s_Vn X.2.2).2.2
  exact C_knowersAs_L6 X h2 ht g_fuel 0 (l5 := 0) rfl (Nat.zero_le _) (n_fu (by omega))
/-- as what it was told, and by two -/
def s_told (σ : Nat → Int32) (t : Nat) : Nat → Int32
  | 0 => 0
  | j + 1 => if s_kn σ j t = true then s_told σ t j ||| hs_bit (s_va σ j t) else s_told σ t j
def s_shar (σ : Nat → Int32) (t : Nat) : Nat → Int32
  | 0 => 0
  | j + 1 => if s_kn σ j t = true then s_shar σ t j ||| (s_told σ t j &&& hs_bit (s_va σ j t)) else s_shar σ t j
theorem told_succ {σ : Nat → Int32} {t j : Nat} : s_told σ t (j + 1) = if s_kn σ j t = true then s_told σ t j ||| hs_bit (s_va σ j t) else s_told σ t j := rfl
theorem shar_succ {σ : Nat → Int32} {t j : Nat} : s_shar σ t (j + 1) = if s_kn σ j t = true then s_shar σ t j ||| (s_told σ t j &&& hs_bit (s_va σ j t)) else s_shar σ t j := rfl
theorem told_get {σ : Nat → Int32} {t i : Nat} (V : s_V σ) (ht : t < 7) : ∀ {j : Nat}, j ≤ hs_m σ → ((s_told σ t j).toBitVec.getLsbD i = true ↔ ∃ h, h < j ∧ s_kn σ h t = true ∧ (s_va σ h t).toInt = (i : Int)) := by
  intro j
  induction j with
  | zero =>
    intro _
    constructor
    · intro h
      have z : (s_told σ t 0).toBitVec.getLsbD i = false := by
        show (0#32).getLsbD i = false
        simp
      rw [z] at h
      cases h
    · rintro ⟨h, h0, _⟩
      omega
  | succ j ih =>
    intro hj
    have ih := ih (by omega)
    unfold s_told
    by_cases k : s_kn σ j t = true
    · have kv := s_kn1 V (by omega) ht k
      obtain ⟨v, hv⟩ : ∃ v : Nat, (s_va σ j t).toInt = (v : Int) := ⟨(s_va σ j t).toInt.toNat, by omega⟩
      rw [if_pos k, or_get, bit_get hv (by omega), Bool.or_eq_true, ih, decide_eq_true_iff]
      constructor
      · rintro (⟨h, h1, h2⟩ | h)
        · exact ⟨h, by omega, h2⟩
        · exact ⟨j, by omega, k, by omega⟩
      · rintro ⟨h, h1, h2, h3⟩
        by_cases e : h = j
        · subst e
          exact Or.inr (by omega)
        · exact Or.inl ⟨h, by omega, h2, h3⟩
    · rw [if_neg k, ih]
      constructor
      · rintro ⟨h, h1, h2⟩
        exact ⟨h, by omega, h2⟩
      · rintro ⟨h, h1, h2, h3⟩
        by_cases e : h = j
        · subst e
          exact absurd h2 k
        · exact ⟨h, by omega, h2, h3⟩
theorem shar_get {σ : Nat → Int32} {t i : Nat} (V : s_V σ) (ht : t < 7) : ∀ {j : Nat}, j ≤ hs_m σ → ((s_shar σ t j).toBitVec.getLsbD i = true ↔ ∃ h h', (h < h' ∧ h' < j) ∧ (s_kn σ h t = true ∧ (s_va σ h t).toInt = (i : Int)) ∧ s_kn σ h' t = true ∧ (s_va σ h' t).toInt = (i : Int)) := by
  intro j
  induction j with
  | zero =>
    intro _
    constructor
    · intro h
      have z : (s_shar σ t 0).toBitVec.getLsbD i = false := by
        show (0#32).getLsbD i = false
        simp
      rw [z] at h
      cases h
    · rintro ⟨h, h', ⟨_, h0⟩, _⟩
      omega
  | succ j ih =>
    intro hj
    have ih := ih (by omega)
    unfold s_shar
    by_cases k : s_kn σ j t = true
    · have kv := s_kn1 V (by omega) ht k
      obtain ⟨v, hv⟩ : ∃ v : Nat, (s_va σ j t).toInt = (v : Int) := ⟨(s_va σ j t).toInt.toNat, by omega⟩
      rw [if_pos k, or_get, and_get, bit_get hv (by omega), Bool.or_eq_true, ih, Bool.and_eq_true, told_get V ht (by omega), decide_eq_true_iff]
      constructor
      · rintro (⟨h, h', ⟨h1, h2⟩, h3⟩ | ⟨⟨h, h1, h2, h3⟩, h4⟩)
        · exact ⟨h, h', ⟨h1, by omega⟩, h3⟩
        · exact ⟨h, j, ⟨h1, by omega⟩, ⟨h2, h3⟩, k, by omega⟩
      · rintro ⟨h, h', ⟨h1, h2⟩, h3, h4, h5⟩
        by_cases e : h' = j
        · subst e
          exact Or.inr ⟨⟨h, h1, h3⟩, by omega⟩
        · exact Or.inl ⟨h, h', ⟨h1, by omega⟩, h3, h4, h5⟩
    · rw [if_neg k, ih]
      constructor
      · rintro ⟨h, h', ⟨h1, h2⟩, h3⟩
        exact ⟨h, h', ⟨h1, by omega⟩, h3⟩
      · rintro ⟨h, h', ⟨h1, h2⟩, h3, h4, h5⟩
        by_cases e : h' = j
        · subst e
          exact absurd h4 k
        · exact ⟨h, h', ⟨h1, by omega⟩, h3, h4, h5⟩
theorem same_iff {σ : Nat → Int32} {h t : Nat} : s_same σ h t = true ↔ ∃ o, o < hs_m σ ∧ o ≠ h ∧ s_va σ o t = s_va σ h t := by
  unfold s_same
  rw [List.any_eq_true]
  constructor
  · rintro ⟨o, h1, h2⟩
    rw [List.mem_range] at h1
    simp only [Bool.and_eq_true, bne_iff_ne, beq_iff_eq] at h2
    exact ⟨o, h1, h2⟩
  · rintro ⟨o, h1, h2, h3⟩
    refine ⟨o, List.mem_range.mpr h1, ?_⟩
    simp only [Bool.and_eq_true, bne_iff_ne, beq_iff_eq]
    exact ⟨h2, h3⟩
/-- who knows it as what is good HOLDS it -/
theorem good_iff {σ : Nat → Int32} {h t : Nat} (V : s_V σ) (hh : h < hs_m σ) (ht : (t : Int) < (σ 1).toInt) (k : s_kn σ h t = true) : hs_is (s_shar σ t (hs_m σ) ||| hs_bit (σ (10 + 4 * t))) (s_va σ h t) = if (s_va σ h t == σ (10 + 4 * t) || s_same σ h t) = true then 1 else 0 := by
  have nn := s_Vn V
  have ht7 : t < 7 := by omega
  have kv := s_kn1 V hh ht7 k
  have so := (V.2.2.1 t ht).1.1
  obtain ⟨v, hv⟩ : ∃ v : Nat, (s_va σ h t).toInt = (v : Int) := ⟨(s_va σ h t).toInt.toNat, by omega⟩
  obtain ⟨w, hw⟩ : ∃ w : Nat, (σ (10 + 4 * t)).toInt = (w : Int) := ⟨(σ (10 + 4 * t)).toInt.toNat, by omega⟩
  have key : (s_shar σ t (hs_m σ) ||| hs_bit (σ (10 + 4 * t))).toBitVec.getLsbD v = true ↔ (s_va σ h t == σ (10 + 4 * t) || s_same σ h t) = true := by
    rw [or_get, bit_get hw (by omega), Bool.or_eq_true, Bool.or_eq_true, shar_get V ht7 (Nat.le_refl _), same_iff, decide_eq_true_iff, beq_iff_eq]
    constructor
    · rintro (⟨a, b, ⟨h1, h2⟩, ⟨h3, h4⟩, h5, h6⟩ | h1)
      · by_cases e : a = h
        · exact Or.inr ⟨b, h2, by omega, Int32.toInt_inj.mp (by omega)⟩
        · exact Or.inr ⟨a, by omega, e, Int32.toInt_inj.mp (by omega)⟩
      · exact Or.inl (Int32.toInt_inj.mp (by omega))
    · rintro (h1 | ⟨o, h1, h2, h3⟩)
      · refine Or.inr ?_
        rw [h1] at hv
        omega
      · have ko : s_kn σ o t = true := by
          unfold s_kn
          rw [h3]
          exact k
        rcases Nat.lt_or_ge o h with l | l
        · exact Or.inl ⟨o, h, ⟨l, hh⟩, ⟨ko, by rw [h3]; exact hv⟩, k, hv⟩
        · exact Or.inl ⟨h, o, ⟨by omega, h1⟩, ⟨k, hv⟩, ko, by rw [h3]; exact hv⟩
  rw [is_get hv (by omega)]
  by_cases c : (s_va σ h t == σ (10 + 4 * t) || s_same σ h t) = true
  · rw [if_pos (key.mpr c), if_pos c]
  · rw [if_neg (mt key.mp c), if_neg c]
theorem C_heldAs_L8 {M : gM} {s e t : Nat} {σ : Nat → Int32} {l2 : Int32} (X : k_X M s e σ) (h2 : l2.toInt = (t : Int)) (ht : (t : Int) < (σ 1).toInt) : ∀ (n j : Nat) {l5 : Int32}, l5.toInt = (j : Int) → j ≤ hs_m σ → hs_m σ - j < n → F_X8_heldAs_L8 M n (some s) (some e) l2 (s_told σ t j) (s_shar σ t j) l5 = some (s_shar σ t (hs_m σ) ||| hs_bit (σ (10 + 4 * t))) := by
  intro n
  induction n with
  | zero => intro j l5 h5 hj hn; omega
  | succ n ih =>
    intro j l5 h5 hj hn
    obtain ⟨⟨ke, ⟨e6, e7⟩, _⟩, ⟨⟨ks, k1, k2⟩, k3, k4⟩, ⟨r0, r1⟩, r2, r3⟩ := k_XE X
    have nn := s_Vn X.2.2
    have ht7 : t < 7 := by omega
    have R0 : g_k M (e + 1) = (20, 7) ∧ M.2.2.2 e 0 = some (e + 1) := k_XR (i := 0) X (by decide)
    have so : M.2.1 (e + 1) t = σ (10 + 4 * t) := (X.2.1.1.2.2.1 t ht).1.1
    show F_X8_heldAs_b8 (F_X8_heldAs_L8 M n) M (some s) (some e) l2 _ _ l5 = _
    delta F_X8_heldAs_b8 F_X8_heldAs_b64
    rw [t_gI ke, Option.bind_some, e7]
    have c0 := i_le_n h5 nn.2.1
    by_cases c : hs_m σ ≤ j
    · have : j = hs_m σ := by omega
      subst this
      rw [if_pos (c0.mpr c), t_gR ke R0.2, Option.bind_some, t_aI R0.1 (by omega) (by omega), Option.bind_some, i_cl h2, so]
      rfl
    · have hh : j < hs_m σ := by omega
      have ix := k_ix h5 h2 (by omega) ht7
      rw [if_neg (mt c0.mp c), t_gR ks r1, Option.bind_some, t_aI k2 (by omega) (by omega), Option.bind_some, i_cl ix, (k_Xst X hh ht7).1]
      have nx := i_nx h5 (by omega)
      have ih := ih (j + 1) nx (by omega) (by omega)
      rw [told_succ, shar_succ] at ih
      have kp := (k_Xpos X hh (t := t) ht7).1
      by_cases k : s_kn σ j t = true
      · rw [if_neg (fun z => by rw [kp.mp z] at k; cases k), t_gR ks r0, Option.bind_some, t_aI k1 (by omega) (by omega), Option.bind_some, Option.bind_some, t_aI k1 (by omega) (by omega), Option.bind_some, i_cl ix, (k_Xst X hh ht7).2 k]
        rw [if_pos k, if_pos k] at ih
        exact ih
      · rw [if_pos (kp.mpr (b_ff k))]
        rw [if_neg k, if_neg k] at ih
        exact ih
theorem C_holdersOf_L25 {M : gM} {s e t : Nat} {σ : Nat → Int32} {l2 : Int32} (X : k_X M s e σ) (h2 : l2.toInt = (t : Int)) (ht : (t : Int) < (σ 1).toInt) (hst : (σ (13 + 4 * t)).toInt < 0) : ∀ (n j : Nat) {l5 : Int32}, l5.toInt = (j : Int) → j ≤ hs_m σ → hs_m σ - j < n → F_X8_holdersOf_L25 M n (some s) (some e) l2 (s_shar σ t (hs_m σ) ||| hs_bit (σ (10 + 4 * t))) (s_bs (fun h => s_ho σ h t) j) l5 = some (s_hs σ t) := by
  intro n
  induction n with
  | zero => intro j l5 h5 hj hn; omega
  | succ n ih =>
    intro j l5 h5 hj hn
    obtain ⟨⟨ke, ⟨e6, e7⟩, _⟩, ⟨⟨ks, k1, k2⟩, k3, k4⟩, ⟨r0, r1⟩, r2, r3⟩ := k_XE X
    have nn := s_Vn X.2.2
    have ht7 : t < 7 := by omega
    show F_X8_holdersOf_b25 (F_X8_holdersOf_L25 M n) M (some s) (some e) l2 _ _ l5 = _
    delta F_X8_holdersOf_b25 F_X8_holdersOf_b77
    rw [t_gI ke, Option.bind_some, e7]
    have c0 := i_le_n h5 nn.2.1
    by_cases c : hs_m σ ≤ j
    · have : j = hs_m σ := by omega
      subst this
      rw [if_pos (c0.mpr c)]
      rfl
    · have hh : j < hs_m σ := by omega
      have ix := k_ix h5 h2 (by omega) ht7
      rw [if_neg (mt c0.mp c), t_gR ks r1, Option.bind_some, t_aI k2 (by omega) (by omega), Option.bind_some, i_cl ix, (k_Xst X hh ht7).1]
      have nx := i_nx h5 (by omega)
      have ih := ih (j + 1) nx (by omega) (by omega)
      rw [bs_succ] at ih
      have kp := (k_Xpos X hh (t := t) ht7).1
      have hd : decide ((σ (13 + 4 * t)).toInt < 0) = true := decide_eq_true hst
      by_cases k : s_kn σ j t = true
      · rw [if_neg (fun z => by rw [kp.mp z] at k; cases k), t_gR ks r0, Option.bind_some, t_aI k1 (by omega) (by omega), Option.bind_some, i_cl ix, (k_Xst X hh ht7).2 k, C_bit, Option.bind_some, good_iff X.2.2 hh ht k]
        have eo : s_ho σ j t = (s_va σ j t == σ (10 + 4 * t) || s_same σ j t) := by
          unfold s_ho
          rw [hd, k]
          rfl
        rw [eo] at ih
        by_cases cg : (s_va σ j t == σ (10 + 4 * t) || s_same σ j t) = true
        · rw [if_pos cg, if_pos rfl]
          rw [if_pos cg, ← i_nt h5 (by omega)] at ih
          exact ih
        · rw [if_neg cg, if_neg (by decide)]
          rw [if_neg cg] at ih
          exact ih
      · rw [if_pos (kp.mpr (b_ff k))]
        have eo : s_ho σ j t = false := by
          unfold s_ho
          rw [hd, b_ff k]
          rfl
        rw [eo, if_neg (by decide)] at ih
        exact ih
theorem s_struck {σ : Nat → Int32} {t : Nat} (V : s_V σ) (ht : (t : Int) < (σ 1).toInt) : σ (13 + 4 * t) = -1 ↔ (σ (13 + 4 * t)).toInt < 0 := by
  have h := (V.2.2.1 t ht).2.2
  have z : (-1 : Int32).toInt = -1 := rfl
  exact ⟨fun e => by rw [e]; decide, fun h2 => Int32.toInt_inj.mp (by omega)⟩
theorem s_hs_struck {σ : Nat → Int32} {t : Nat} (V : s_V σ) (h : ¬ (σ (13 + 4 * t)).toInt < 0) : s_hs σ t = 0 := by
  unfold s_hs
  rw [bs_zero (by have := (s_Vn V).2.2; omega)]
  intro i _
  unfold s_ho
  rw [decide_eq_false h]
  rfl
theorem C_holdersOf {M : gM} {s e t : Nat} {σ : Nat → Int32} {l2 : Int32} (X : k_X M s e σ) (h2 : l2.toInt = (t : Int)) (ht : (t : Int) < (σ 1).toInt) : F_X8_holdersOf (some s) (some e) l2 M = some (s_hs σ t) := by
  obtain ⟨⟨ke, ⟨e6, e7⟩, _⟩, ⟨⟨ks, k1, k2⟩, k3, k4⟩, ⟨r0, r1⟩, r2, r3⟩ := k_XE X
  have nn := s_Vn X.2.2
  have ht7 : t < 7 := by omega
  have st : M.2.1 (s + 4) t = σ (13 + 4 * t) := X.2.1.2.2.2 t ht
  delta F_X8_holdersOf F_X8_holdersOf_b0
  rw [t_gR ks r3, Option.bind_some, t_aI k4 (by omega) (by omega), Option.bind_some, i_cl h2, st]
  have ss := s_struck X.2.2 ht
  by_cases c : (σ (13 + 4 * t)).toInt < 0
  · rw [if_pos (ss.mpr c), t_gO ks, Option.bind_some]
    have ha : F_X8_heldAs (some s) (some e) l2 M = some (s_shar σ t (hs_m σ) ||| hs_bit (σ (10 + 4 * t))) := by
      delta F_X8_heldAs F_X8_heldAs_b0
      exact C_heldAs_L8 X h2 ht g_fuel 0 (l5 := 0) rfl (Nat.zero_le _) (n_fu (by omega))
    rw [ha, Option.bind_some]
    exact C_holdersOf_L25 X h2 ht c g_fuel 0 (l5 := 0) rfl (Nat.zero_le _) (n_fu (by omega))
  · rw [if_neg (mt ss.mp c), s_hs_struck X.2.2 c]
theorem C_heldBy_L5 {M : gM} {s e h : Nat} {σ : Nat → Int32} {l2 : Int32} (X : k_X M s e σ) (h2 : l2.toInt = (h : Int)) (hh : h < hs_m σ) : ∀ (n j : Nat) {l4 : Int32}, l4.toInt = (j : Int) → j ≤ hs_n σ → hs_n σ - j < n → F_X8_heldBy_L5 M n (some s) (some e) l2 (s_bs (fun t => s_ho σ h t) j) l4 = some (s_hb σ h) := by
  intro n
  induction n with
  | zero => intro j l4 h4 hj hn; omega
  | succ n ih =>
    intro j l4 h4 hj hn
    obtain ⟨⟨ke, ⟨e6, e7⟩, _⟩, ⟨⟨ks, k1, k2⟩, k3, k4⟩, ⟨r0, r1⟩, r2, r3⟩ := k_XE X
    have nn := s_Vn X.2.2
    show F_X8_heldBy_b5 (F_X8_heldBy_L5 M n) M (some s) (some e) l2 _ l4 = _
    delta F_X8_heldBy_b5 F_X8_heldBy_b36
    rw [t_gI ke, Option.bind_some, e6]
    have c0 := i_le_n h4 nn.1.1
    by_cases c : hs_n σ ≤ j
    · have : j = hs_n σ := by omega
      subst this
      rw [if_pos (c0.mpr c)]
      rfl
    · rw [if_neg (mt c0.mp c), t_gO ks, Option.bind_some, C_holdersOf X h4 (by omega), Option.bind_some, C_bit, Option.bind_some]
      have nx := i_nx h4 (by omega)
      have ih := ih (j + 1) nx (by omega) (by omega)
      rw [bs_succ] at ih
      have e1 : hs_is (s_hs σ j) l2 = if s_ho σ h j = true then 1 else 0 := bs_is (f := fun h => s_ho σ h j) h2 hh (by omega)
      rw [e1]
      by_cases k : s_ho σ h j = true
      · rw [if_pos k, if_pos rfl]
        rw [if_pos k, ← i_nt h4 (by omega)] at ih
        exact ih
      · rw [if_neg k, if_neg (by decide)]
        rw [if_neg k] at ih
        exact ih
theorem C_heldBy {M : gM} {s e h : Nat} {σ : Nat → Int32} {l2 : Int32} (X : k_X M s e σ) (h2 : l2.toInt = (h : Int)) (hh : h < hs_m σ) : F_X8_heldBy (some s) (some e) l2 M = some (s_hb σ h) := by
  delta F_X8_heldBy F_X8_heldBy_b0
  have := (s_Vn X.2.2).1.2
  exact C_heldBy_L5 X h2 hh g_fuel 0 (l4 := 0) rfl (Nat.zero_le _) (n_fu (by omega))
theorem C_standing_L4 {M : gM} {s e : Nat} {σ : Nat → Int32} (X : k_X M s e σ) : ∀ (n j : Nat) {l3 : Int32}, l3.toInt = (j : Int) → j ≤ hs_n σ → hs_n σ - j < n → F_X8_standing_L4 M n (some s) (some e) (s_bs (fun t => decide ((σ (13 + 4 * t)).toInt < 0)) j) l3 = some (s_sd σ) := by
  intro n
  induction n with
  | zero => intro j l3 h3 hj hn; omega
  | succ n ih =>
    intro j l3 h3 hj hn
    obtain ⟨⟨ke, ⟨e6, e7⟩, _⟩, ⟨⟨ks, k1, k2⟩, k3, k4⟩, ⟨r0, r1⟩, r2, r3⟩ := k_XE X
    have nn := s_Vn X.2.2
    show F_X8_standing_b4 (F_X8_standing_L4 M n) M (some s) (some e) _ l3 = _
    delta F_X8_standing_b4 F_X8_standing_b28
    rw [t_gI ke, Option.bind_some, e6]
    have c0 := i_le_n h3 nn.1.1
    by_cases c : hs_n σ ≤ j
    · have : j = hs_n σ := by omega
      subst this
      rw [if_pos (c0.mpr c)]
      rfl
    · have st : M.2.1 (s + 4) j = σ (13 + 4 * j) := X.2.1.2.2.2 j (by omega)
      rw [if_neg (mt c0.mp c), t_gR ks r3, Option.bind_some, t_aI k4 (by omega) (by omega), Option.bind_some, i_cl h3, st]
      have nx := i_nx h3 (by omega)
      have ih := ih (j + 1) nx (by omega) (by omega)
      rw [bs_succ] at ih
      have ss := s_struck (t := j) X.2.2 (by omega)
      by_cases k : (σ (13 + 4 * j)).toInt < 0
      · rw [if_pos (ss.mpr k)]
        rw [if_pos (decide_eq_true k), ← i_nt h3 (by omega)] at ih
        exact ih
      · rw [if_neg (mt ss.mp k)]
        rw [if_neg (by simp [k])] at ih
        exact ih
theorem C_standing {M : gM} {s e : Nat} {σ : Nat → Int32} (X : k_X M s e σ) : F_X8_standing (some s) (some e) M = some (s_sd σ) := by
  delta F_X8_standing F_X8_standing_b0
  have := (s_Vn X.2.2).1.2
  exact C_standing_L4 X g_fuel 0 (l3 := 0) rfl (Nat.zero_le _) (n_fu (by omega))
-- 7z9c.epure
/-! the reference: what is known and HELD -/
def e_V (M : gM) (σ : Nat → Int32) : Prop := y_HT M ∧ M.2.1 185 = σ ∧ s_V σ
theorem e_sd {M : gM} {σ : Nat → Int32} {β : Type} {j : Int32} {k : Nat} {f : Int32 → Option β} (X : e_V M σ) (hj : j.toInt = (k : Int)) (hk : k < 157) : ((gR 12 M (some 175) 20).bind fun v => (aI 20 M v j).bind f) = f (σ k) := by
  rw [e_gR X.1 (w := 185) rfl (by decide), Option.bind_some, e_aI X.1 (t := 20) (i := 185) (n := 157) rfl (by decide) (by omega) (by omega), Option.bind_some, i_cl hj, X.2.1]
theorem E_thingOf {M : gM} {σ : Nat → Int32} {l1 l2 : Int32} {t w : Nat} (X : e_V M σ) (h1 : l1.toInt = (t : Int)) (h2 : l2.toInt = (w : Int)) (ht : t < 7) (hw : w < 4) : F_X12_thingOf (some 175) l1 l2 M = some (σ (10 + 4 * t + w)) := by
  have a1 := i_mulL (c := (4 : Int32)) (x := l1) (n := 4) rfl (by omega) (by omega)
  have a2 := i_cadd (c := (10 : Int32)) (x := (4 : Int32) * l1) (n := 10) rfl (by omega) (by omega)
  have a3 := i_add (x := (10 : Int32) + (4 : Int32) * l1) (y := l2) (by omega) (by omega)
  delta F_X12_thingOf F_X12_thingOf_b0
  rw [e_sd X (k := 10 + 4 * t + w) (by omega) (by omega)]
theorem E_ix {l1 l2 : Int32} {h t : Nat} (h1 : l1.toInt = (h : Int)) (h2 : l2.toInt = (t : Int)) (hh : h < 7) (ht : t < 7) : (((59 : Int32) + ((14 : Int32) * l1)) + ((2 : Int32) * l2)).toInt = ((59 + 14 * h + 2 * t : Nat) : Int) ∧ ((((59 : Int32) + ((14 : Int32) * l1)) + ((2 : Int32) * l2)) + (1 : Int32)).toInt = ((60 + 14 * h + 2 * t : Nat) : Int) := by
  have a1 := i_mulL (c := (14 : Int32)) (x := l1) (n := 14) rfl (by omega) (by omega)
  have a2 := i_cadd (c := (59 : Int32)) (x := (14 : Int32) * l1) (n := 59) rfl (by omega) (by omega)
  have a3 := i_mulL (c := (2 : Int32)) (x := l2) (n := 2) rfl (by omega) (by omega)
  have a4 := i_add (x := (59 : Int32) + (14 : Int32) * l1) (y := (2 : Int32) * l2) (by omega) (by omega)
  have a5 := i_addc (x := ((59 : Int32) + (14 : Int32) * l1) + (2 : Int32) * l2) (c := (1 : Int32)) (n := 1) rfl (by omega) (by omega)
  omega
theorem E_valueOf {M : gM} {σ : Nat → Int32} {l1 l2 : Int32} {h t : Nat} (X : e_V M σ) (h1 : l1.toInt = (h : Int)) (h2 : l2.toInt = (t : Int)) (hh : h < 7) (ht : t < 7) : F_X12_valueOf (some 175) l1 l2 M = some (s_va σ h t) := by
  delta F_X12_valueOf F_X12_valueOf_b0
  rw [e_sd X (E_ix h1 h2 hh ht).1 (by omega)]
  rfl
theorem E_strengthOf {M : gM} {σ : Nat → Int32} {l1 l2 : Int32} {h t : Nat} (X : e_V M σ) (h1 : l1.toInt = (h : Int)) (h2 : l2.toInt = (t : Int)) (hh : h < 7) (ht : t < 7) : F_X12_strengthOf (some 175) l1 l2 M = some (s_st σ h t) := by
  delta F_X12_strengthOf F_X12_strengthOf_b0
  rw [e_sd X (E_ix h1 h2 hh ht).2 (by omega)]
  rfl
theorem E_knowsOf {M : gM} {σ : Nat → Int32} {l1 l2 : Int32} {h t : Nat} (X : e_V M σ) (h1 : l1.toInt = (h : Int)) (h2 : l2.toInt = (t : Int)) (hh : h < 7) (ht : t < 7) : F_X12_knowsOf (some 175) l1 l2 M = some (if s_kn σ h t = true then 1 else 0) := by
  delta F_X12_knowsOf F_X12_knowsOf_b0
  rw [e_gO X.1, Option.bind_some, E_valueOf X h1 h2 hh ht, Option.bind_some]
  have z0 : (0 : Int32).toInt = 0 := rfl
  by_cases c : s_kn σ h t = true
  · rw [if_pos c, if_neg (fun z => by have := i_lt z; have := of_decide_eq_true c; omega)]
  · have := of_decide_eq_false (b_ff c)
    rw [if_neg c, if_pos (Int32.lt_iff_toInt_lt.mpr (by omega))]
/-- how many others know it as the same -/
def s_sc (σ : Nat → Int32) (h t : Nat) : Nat → Int32
  | 0 => 0
  | j + 1 => if j ≠ h ∧ s_va σ j t = s_va σ h t then s_sc σ h t j + 1 else s_sc σ h t j
theorem sc_succ {σ : Nat → Int32} {h t j : Nat} : s_sc σ h t (j + 1) = if j ≠ h ∧ s_va σ j t = s_va σ h t then s_sc σ h t j + 1 else s_sc σ h t j := rfl
theorem s_sc_r {σ : Nat → Int32} {h t : Nat} : ∀ {j : Nat}, j ≤ 7 → (0 ≤ (s_sc σ h t j).toInt ∧ (s_sc σ h t j).toInt ≤ j) ∧ (0 < (s_sc σ h t j).toInt ↔ ∃ o, o < j ∧ o ≠ h ∧ s_va σ o t = s_va σ h t) := by
  intro j
  induction j with
  | zero =>
    intro _
    have z0 : (s_sc σ h t 0).toInt = 0 := rfl
    rw [z0]
    refine ⟨⟨by omega, by omega⟩, fun h => by omega, ?_⟩
    rintro ⟨o, h1, _⟩
    omega
  | succ j ih =>
    intro hj
    obtain ⟨⟨a, b⟩, c⟩ := ih (by omega)
    unfold s_sc
    by_cases k : j ≠ h ∧ s_va σ j t = s_va σ h t
    · have e := i_addc (x := s_sc σ h t j) (c := (1 : Int32)) (n := 1) rfl (by omega) (by omega)
      rw [if_pos k, show (s_sc σ h t j + 1).toInt = (s_sc σ h t j).toInt + 1 from e]
      exact ⟨⟨by omega, by omega⟩, fun _ => ⟨j, by omega, k⟩, fun _ => by omega⟩
    · rw [if_neg k]
      refine ⟨⟨a, by omega⟩, fun h => ?_, ?_⟩
      · obtain ⟨o, h1, h2⟩ := c.mp h
        exact ⟨o, by omega, h2⟩
      · rintro ⟨o, h1, h2⟩
        by_cases e : o = j
        · subst e
          exact absurd h2 k
        · exact c.mpr ⟨o, by omega, h2⟩
theorem E_sameAs_L5 {M : gM} {σ : Nat → Int32} {l1 l2 : Int32} {h t : Nat} (X : e_V M σ) (h1 : l1.toInt = (h : Int)) (h2 : l2.toInt = (t : Int)) (hh : h < 7) (ht : t < 7) : ∀ (n j : Nat) {l4 : Int32}, l4.toInt = (j : Int) → j ≤ hs_m σ → hs_m σ - j < n → F_X12_sameAs_L5 M n (some 175) l1 l2 (s_sc σ h t j) l4 = some (s_sc σ h t (hs_m σ)) := by
  intro n
  induction n with
  | zero => intro j l4 h4 hj hn; omega
  | succ n ih =>
    intro j l4 h4 hj hn
    have nn := s_Vn X.2.2
    show F_X12_sameAs_b5 (F_X12_sameAs_L5 M n) M (some 175) l1 l2 _ l4 = _
    delta F_X12_sameAs_b5 F_X12_sameAs_b43 F_X12_sameAs_b44
    rw [e_sd X (k := 2) rfl (by decide)]
    have c0 := i_le_n h4 nn.2.1
    by_cases c : hs_m σ ≤ j
    · have : j = hs_m σ := by omega
      subst this
      rw [if_pos (c0.mpr c)]
    · rw [if_neg (mt c0.mp c)]
      have nx := i_nx h4 (by omega)
      have ih := ih (j + 1) nx (by omega) (by omega)
      rw [sc_succ] at ih
      have e0 : s_sc σ h t j + (0 : Int32) = s_sc σ h t j := Int32.add_zero _
      by_cases ce : l4 = l1
      · have : j = h := by rw [ce] at h4; omega
        rw [if_pos ce, e0]
        rw [if_neg (fun z => z.1 this)] at ih
        exact ih
      · have jn : j ≠ h := fun z => ce (Int32.toInt_inj.mp (by omega))
        rw [if_neg ce, e_gO X.1, Option.bind_some, E_valueOf X h4 h2 (by omega) ht, Option.bind_some, E_valueOf X h1 h2 hh ht, Option.bind_some]
        by_cases cv : s_va σ j t = s_va σ h t
        · rw [if_pos cv]
          rw [if_pos ⟨jn, cv⟩] at ih
          exact ih
        · rw [if_neg cv, e0]
          rw [if_neg (fun z => cv z.2)] at ih
          exact ih
theorem E_sameAs {M : gM} {σ : Nat → Int32} {l1 l2 : Int32} {h t : Nat} (X : e_V M σ) (h1 : l1.toInt = (h : Int)) (h2 : l2.toInt = (t : Int)) (hh : h < 7) (ht : t < 7) : F_X12_sameAs (some 175) l1 l2 M = some (s_sc σ h t (hs_m σ)) := by
  delta F_X12_sameAs F_X12_sameAs_b0
  have := (s_Vn X.2.2).2.2
  exact E_sameAs_L5 X h1 h2 hh ht g_fuel 0 (l4 := 0) rfl (Nat.zero_le _) (n_fu (by omega))
theorem E_holds {M : gM} {σ : Nat → Int32} {l1 l2 : Int32} {h t : Nat} (X : e_V M σ) (h1 : l1.toInt = (h : Int)) (h2 : l2.toInt = (t : Int)) (hh : h < 7) (ht : t < 7) : F_X12_holds (some 175) l1 l2 M = some (if s_ho σ h t = true then 1 else 0) := by
  have z0 : (0 : Int32).toInt = 0 := rfl
  have nn := s_Vn X.2.2
  delta F_X12_holds F_X12_holds_b0 F_X12_holds_b18 F_X12_holds_b44
  rw [e_gO X.1, Option.bind_some, E_thingOf X h2 (w := 3) rfl ht (by decide), Option.bind_some]
  unfold s_ho
  by_cases c : (σ (13 + 4 * t)).toInt < 0
  · rw [if_neg (fun z => by have := i_le z; rw [show 10 + 4 * t + 3 = 13 + 4 * t by omega] at this; omega), decide_eq_true c, Bool.true_and, E_knowsOf X h1 h2 hh ht, Option.bind_some]
    by_cases k : s_kn σ h t = true
    · rw [if_pos k, if_neg (by decide), k, Bool.true_and, E_valueOf X h1 h2 hh ht, Option.bind_some, E_thingOf X h2 (w := 0) rfl ht (by decide), Option.bind_some, show 10 + 4 * t + 0 = 10 + 4 * t by omega]
      by_cases cv : s_va σ h t = σ (10 + 4 * t)
      · rw [if_pos cv, if_pos (by simp [cv])]
      · rw [if_neg cv, E_sameAs X h1 h2 hh ht, Option.bind_some]
        have sc := s_sc_r (σ := σ) (h := h) (t := t) (j := hs_m σ) (by omega)
        by_cases cs : s_same σ h t = true
        · rw [if_neg (fun z => by have := i_le z; have := sc.2.mpr (same_iff.mp cs); omega), if_pos (by simp [cs])]
        · have : ¬ 0 < (s_sc σ h t (hs_m σ)).toInt := fun z => cs (same_iff.mpr (sc.2.mp z))
          rw [if_pos (Int32.le_iff_toInt_le.mpr (by omega)), if_neg (by simp [cv, cs])]
    · rw [if_neg k, if_pos rfl, b_ff k, if_neg (by simp)]
  · rw [if_pos (Int32.le_iff_toInt_le.mpr (by rw [show 10 + 4 * t + 3 = 13 + 4 * t by omega]; omega)), decide_eq_false c, if_neg (by simp)]
theorem bs_next {f : Nat → Bool} {j : Nat} {l : Int32} (hl : l.toInt = (j : Int)) (hj : j ≤ 1000) : (s_bs f (j + 1) = s_bs f j ||| (if f j = true then hs_bit l else 0)) := by
  rw [i_nt hl hj]
  unfold s_bs
  by_cases c : f j = true
  · rw [if_pos c, if_pos c]
    cases j <;> rfl
  · rw [if_neg c, if_neg c, i_or0]
    cases j <;> rfl
theorem E_holdsOf_L4 {M : gM} {σ : Nat → Int32} {l1 : Int32} {h : Nat} (X : e_V M σ) (h1 : l1.toInt = (h : Int)) (hh : h < 7) : ∀ (n j : Nat) {l3 : Int32}, l3.toInt = (j : Int) → j ≤ hs_n σ → hs_n σ - j < n → F_X12_holdsOf_L4 M n (some 175) l1 (s_bs (fun t => s_ho σ h t) j) l3 = some (s_hb σ h) := by
  intro n
  induction n with
  | zero => intro j l3 h3 hj hn; omega
  | succ n ih =>
    intro j l3 h3 hj hn
    have nn := s_Vn X.2.2
    show F_X12_holdsOf_b4 (F_X12_holdsOf_L4 M n) M (some 175) l1 _ l3 = _
    delta F_X12_holdsOf_b4 F_X12_holdsOf_b31
    rw [e_sd X (k := 1) rfl (by decide)]
    have c0 := i_le_n h3 nn.1.1
    by_cases c : hs_n σ ≤ j
    · have : j = hs_n σ := by omega
      subst this
      rw [if_pos (c0.mpr c)]
      rfl
    · rw [if_neg (mt c0.mp c), e_gO X.1, Option.bind_some, E_holds X h1 h3 hh (by omega), Option.bind_some]
      have ih := ih (j + 1) (i_nx h3 (by omega)) (by omega) (by omega)
      rw [bs_next h3 (by omega)] at ih
      by_cases k : s_ho σ h j = true
      · rw [if_pos k, if_neg (by decide)]
        rw [if_pos k] at ih
        exact ih
      · rw [if_neg k, if_pos rfl]
        rw [if_neg k] at ih
        exact ih
theorem E_holdsOf {M : gM} {σ : Nat → Int32} {l1 : Int32} {h : Nat} (X : e_V M σ) (h1 : l1.toInt = (h : Int)) (hh : h < 7) : F_X12_holdsOf (some 175) l1 M = some (s_hb σ h) := by
  delta F_X12_holdsOf F_X12_holdsOf_b0
  have := (s_Vn X.2.2).1.2
  exact E_holdsOf_L4 X h1 hh g_fuel 0 (l3 := 0) rfl (Nat.zero_le _) (n_fu (by omega))
theorem E_holdersOf_L4 {M : gM} {σ : Nat → Int32} {l1 : Int32} {t : Nat} (X : e_V M σ) (h1 : l1.toInt = (t : Int)) (ht : t < 7) : ∀ (n j : Nat) {l3 : Int32}, l3.toInt = (j : Int) → j ≤ hs_m σ → hs_m σ - j < n → F_X12_holdersOf_L4 M n (some 175) l1 (s_bs (fun h => s_ho σ h t) j) l3 = some (s_hs σ t) := by
  intro n
  induction n with
  | zero => intro j l3 h3 hj hn; omega
  | succ n ih =>
    intro j l3 h3 hj hn
    have nn := s_Vn X.2.2
    show F_X12_holdersOf_b4 (F_X12_holdersOf_L4 M n) M (some 175) l1 _ l3 = _
    delta F_X12_holdersOf_b4 F_X12_holdersOf_b31
    rw [e_sd X (k := 2) rfl (by decide)]
    have c0 := i_le_n h3 nn.2.1
    by_cases c : hs_m σ ≤ j
    · have : j = hs_m σ := by omega
      subst this
      rw [if_pos (c0.mpr c)]
      rfl
    · rw [if_neg (mt c0.mp c), e_gO X.1, Option.bind_some, E_holds X h3 h1 (by omega) ht, Option.bind_some]
      have ih := ih (j + 1) (i_nx h3 (by omega)) (by omega) (by omega)
      rw [bs_next h3 (by omega)] at ih
      by_cases k : s_ho σ j t = true
      · rw [if_pos k, if_neg (by decide)]
        rw [if_pos k] at ih
        exact ih
      · rw [if_neg k, if_pos rfl]
        rw [if_neg k] at ih
        exact ih
theorem E_holdersOf {M : gM} {σ : Nat → Int32} {l1 : Int32} {t : Nat} (X : e_V M σ) (h1 : l1.toInt = (t : Int)) (ht : t < 7) : F_X12_holdersOf (some 175) l1 M = some (s_hs σ t) := by
  delta F_X12_holdersOf F_X12_holdersOf_b0
  have := (s_Vn X.2.2).2.2
  exact E_holdersOf_L4 X h1 ht g_fuel 0 (l3 := 0) rfl (Nat.zero_le _) (n_fu (by omega))
theorem E_standing_L4 {M : gM} {σ : Nat → Int32} (X : e_V M σ) : ∀ (n j : Nat) {l2 : Int32}, l2.toInt = (j : Int) → j ≤ hs_n σ → hs_n σ - j < n → F_X12_standing_L4 M n (some 175) (s_bs (fun t => decide ((σ (13 + 4 * t)).toInt < 0)) j) l2 = some (s_sd σ) := by
  intro n
  induction n with
  | zero => intro j l2 h3 hj hn; omega
  | succ n ih =>
    intro j l2 h3 hj hn
    have nn := s_Vn X.2.2
    have z0 : (0 : Int32).toInt = 0 := rfl
    show F_X12_standing_b4 (F_X12_standing_L4 M n) M (some 175) _ l2 = _
    delta F_X12_standing_b4 F_X12_standing_b31
    rw [e_sd X (k := 1) rfl (by decide)]
    have c0 := i_le_n h3 nn.1.1
    by_cases c : hs_n σ ≤ j
    · have : j = hs_n σ := by omega
      subst this
      rw [if_pos (c0.mpr c)]
      rfl
    · rw [if_neg (mt c0.mp c), e_gO X.1, Option.bind_some, E_thingOf X h3 (w := 3) rfl (by omega) (by decide), Option.bind_some, show 10 + 4 * j + 3 = 13 + 4 * j by omega]
      have ih := ih (j + 1) (i_nx h3 (by omega)) (by omega) (by omega)
      rw [bs_next h3 (by omega)] at ih
      by_cases k : (σ (13 + 4 * j)).toInt < 0
      · rw [if_neg (fun z => by have := i_le z; omega)]
        rw [if_pos (decide_eq_true k)] at ih
        exact ih
      · rw [if_pos (Int32.le_iff_toInt_le.mpr (by omega))]
        rw [if_neg (by simp [k])] at ih
        exact ih
theorem E_standing {M : gM} {σ : Nat → Int32} (X : e_V M σ) : F_X12_standing (some 175) M = some (s_sd σ) := by
  delta F_X12_standing F_X12_standing_b0
  have := (s_Vn X.2.2).1.2
  exact E_standing_L4 X g_fuel 0 (l2 := 0) rfl (Nat.zero_le _) (n_fu (by omega))
-- 7z9d.chg
/-! what is known changes: of the cells, of the class, of the reference -/
def s_kw (σ : Nat → Int32) (h t : Nat) (a v : Int32) : Nat → Int32 := hs_set (hs_set σ (59 + 14 * h + 2 * t) (if v ≤ 0 then -1 else a)) (60 + 14 * h + 2 * t) (if v ≤ 0 then 0 else v)
theorem kw_o {σ : Nat → Int32} {h t j : Nat} {a v : Int32} (h1 : j ≠ 59 + 14 * h + 2 * t) (h2 : j ≠ 60 + 14 * h + 2 * t) : s_kw σ h t a v j = σ j := by
  unfold s_kw
  rw [hs_sn h2, hs_sn h1]
theorem kw_v {σ : Nat → Int32} {h t : Nat} {a v : Int32} : s_va (s_kw σ h t a v) h t = (if v ≤ 0 then -1 else a) ∧ s_st (s_kw σ h t a v) h t = (if v ≤ 0 then 0 else v) := by
  unfold s_kw s_va s_st
  exact ⟨by rw [hs_sn (by omega), hs_se], hs_se⟩
theorem kw_ne {σ : Nat → Int32} {h t h' t' : Nat} {a v : Int32} (ht : t < 7) (ht' : t' < 7) (hn : h' ≠ h ∨ t' ≠ t) : s_va (s_kw σ h t a v) h' t' = s_va σ h' t' ∧ s_st (s_kw σ h t a v) h' t' = s_st σ h' t' := by
  unfold s_va s_st
  exact ⟨kw_o (by omega) (by omega), kw_o (by omega) (by omega)⟩
theorem kw_lo {σ : Nat → Int32} {h t j : Nat} {a v : Int32} (hj : j < 59) : s_kw σ h t a v j = σ j := kw_o (by omega) (by omega)
theorem kw_nm {σ : Nat → Int32} {h t : Nat} {a v : Int32} : hs_n (s_kw σ h t a v) = hs_n σ ∧ hs_m (s_kw σ h t a v) = hs_m σ := by
  unfold hs_n hs_m
  rw [kw_lo (by decide), kw_lo (by decide)]
  exact ⟨rfl, rfl⟩
theorem kw_V {σ : Nat → Int32} {h t : Nat} {a v : Int32} (V : s_V σ) (ht : t < 7) (hv : v.toInt ≤ 99) (ha : 0 < v.toInt → 0 ≤ a.toInt ∧ a.toInt ≤ 9) : s_V (s_kw σ h t a v) := by
  obtain ⟨V1, V2, V3, V4⟩ := V
  have z0 : (0 : Int32).toInt = 0 := rfl
  refine ⟨by rw [kw_lo (by decide), kw_lo (by decide)]; exact V1, fun h' t' hh ht' => ?_, fun t' ht' => ?_, fun h' hh => ?_⟩
  · rw [kw_lo (by decide)] at hh
    by_cases e : h' = h ∧ t' = t
    · obtain ⟨rfl, rfl⟩ := e
      obtain ⟨e1, e2⟩ := kw_v (σ := σ) (h := h') (t := t') (a := a) (v := v)
      rw [e1, e2]
      by_cases c : v ≤ 0
      · rw [if_pos c, if_pos c]
        exact Or.inl ⟨rfl, rfl⟩
      · have c' := i_nle c
        rw [if_neg c, if_neg c]
        exact Or.inr ⟨ha (by omega), by omega, hv⟩
    · obtain ⟨e1, e2⟩ := kw_ne (σ := σ) (h := h) (t := t) (h' := h') (t' := t') (a := a) (v := v) ht ht' (by omega)
      rw [e1, e2]
      exact V2 h' t' hh ht'
  · rw [kw_lo (by decide)] at ht'
    rw [kw_lo (by omega), kw_lo (by omega), kw_lo (by omega), kw_lo (by omega)]
    exact V3 t' ht'
  · rw [kw_lo (by decide)] at hh
    rw [kw_lo (by omega), kw_lo (by omega)]
    exact V4 h' hh
theorem k_X_Fs {M M' : gM} {s e : Nat} {σ σ' : Nat → Int32} (X : k_X M s e σ) (hd : e + 5 < s ∨ s + 4 < e) (f : k_Fs s M M') (S : k_S M' s σ') (V : s_V σ') (E : ∀ j, j < 59 → j ≠ 4 → j ≠ 5 → j ≠ 8 → (∀ k, k < 7 → j ≠ 13 + 4 * k ∧ j ≠ 38 + 2 * k) → σ' j = σ j) : k_X M' s e σ' := by
  have n := s_Vn X.2.2
  refine ⟨⟨k_LEm X.1.1 (fun i => q_k_of f.1.1.1) f.1.2, k_Fs_LS X.1.2 f⟩, ⟨?_, S⟩, V⟩
  have E0 : k_E M' e σ := k_Em X.2.1.1 (fun i k h1 h2 _ => by rw [f.2 i (by omega)])
  have e1 : σ' 1 = σ 1 := E 1 (by decide) (by decide) (by decide) (by decide) (fun k hk => by omega)
  have e2 : σ' 2 = σ 2 := E 2 (by decide) (by decide) (by decide) (by decide) (fun k hk => by omega)
  have e3 : σ' 3 = σ 3 := E 3 (by decide) (by decide) (by decide) (by decide) (fun k hk => by omega)
  have e6 : σ' 6 = σ 6 := E 6 (by decide) (by decide) (by decide) (by decide) (fun k hk => by omega)
  have e7 : σ' 7 = σ 7 := E 7 (by decide) (by decide) (by decide) (by decide) (fun k hk => by omega)
  obtain ⟨E1, E2, E3, E4⟩ := E0
  refine ⟨by rw [e1, e2, e3]; exact E1, by rw [e7, e6]; exact E2, fun t ht => ?_, fun h hh => ?_⟩
  · rw [e1] at ht
    rw [E (10 + 4 * t) (by omega) (by omega) (by omega) (by omega) (fun k hk => by omega), E (11 + 4 * t) (by omega) (by omega) (by omega) (by omega) (fun k hk => by omega), E (12 + 4 * t) (by omega) (by omega) (by omega) (by omega) (fun k hk => by omega)]
    exact E3 t ht
  · rw [e2] at hh
    rw [E (39 + 2 * h) (by omega) (by omega) (by omega) (by omega) (fun k hk => by omega), E (52 + h) (by omega) (by omega) (by omega) (by omega) (fun k hk => by omega)]
    exact E4 h hh
/-- a cell of the class's State: set -/
theorem k_X_cell {M M' : gM} {s e h t : Nat} {σ : Nat → Int32} {a v w : Int32} (X : k_X M s e σ) (hd : e + 5 < s ∨ s + 4 < e) (hh : h < hs_m σ) (ht : t < 7) (f : k_Fs s M M')
    (o : ∀ i k, (i = s + 1 ∨ i = s + 2) → k ≠ 7 * h + t → M'.2.1 i k = M.2.1 i k) (o2 : ∀ i k, (i = s ∨ i = s + 3 ∨ i = s + 4) → M'.2.1 i k = M.2.1 i k)
    (hv : M'.2.1 (s + 2) (7 * h + t) = (if v ≤ 0 then 0 else v)) (ha : 0 < v.toInt → M'.2.1 (s + 1) (7 * h + t) = a ∧ (0 ≤ a.toInt ∧ a.toInt ≤ 9)) (hv9 : v.toInt ≤ 99) : k_X M' s e (s_kw σ h t a v) := by
  have n := s_Vn X.2.2
  have z0 : (0 : Int32).toInt = 0 := rfl
  have S := X.2.1.2
  refine k_X_Fs X hd f ?_ (kw_V X.2.2 ht hv9 (fun h => (ha h).2)) (fun j h1 _ _ _ _ => kw_lo h1)
  obtain ⟨S1, S2, S3⟩ := S
  refine ⟨?_, fun h' hh' => ?_, fun t' ht' => ?_⟩
  · rw [kw_lo (by decide), kw_lo (by decide), kw_lo (by decide), o2 s 4 (Or.inl rfl), o2 s 5 (Or.inl rfl), o2 s 6 (Or.inl rfl)]
    exact S1
  · rw [kw_lo (by decide)] at hh'
    rw [kw_lo (by omega), o2 (s + 3) h' (by omega)]
    refine ⟨(S2 h' hh').1, fun t' ht' => ?_⟩
    by_cases e : h' = h ∧ t' = t
    · obtain ⟨rfl, rfl⟩ := e
      obtain ⟨e1, e2⟩ := kw_v (σ := σ) (h := h') (t := t') (a := a) (v := v)
      unfold s_va at e1
      unfold s_st at e2
      unfold k_c
      rw [e1, e2, hv]
      by_cases c : v ≤ 0
      · rw [if_pos c, if_pos c]
        exact Or.inr ⟨rfl, rfl, rfl⟩
      · have c' := i_nle c
        have ha := ha (by omega)
        rw [if_neg c, if_neg c]
        exact Or.inl ⟨⟨by omega, ha.2.1⟩, ha.1, rfl⟩
    · obtain ⟨e1, e2⟩ := kw_ne (σ := σ) (h := h) (t := t) (h' := h') (t' := t') (a := a) (v := v) ht ht' (by omega)
      exact k_cm ((S2 h' hh').2 t' ht') (o (s + 1) _ (by omega) (by omega)) (o (s + 2) _ (by omega) (by omega)) e1 e2
  · rw [kw_lo (by decide)] at ht'
    rw [kw_lo (by omega), o2 (s + 4) t' (by omega)]
    exact S3 t' ht'
theorem C_learnX {M : gM} {s e h t : Nat} {σ : Nat → Int32} {l1 l2 a v : Int32} (X : k_X M s e σ) (hd : e + 5 < s ∨ s + 4 < e) (h1 : l1.toInt = (h : Int)) (h2 : l2.toInt = (t : Int)) (hh : h < hs_m σ) (ht : t < 7) (hv : 0 ≤ v.toInt ∧ v.toInt ≤ 99) (ha : 0 < v.toInt → 0 ≤ a.toInt ∧ a.toInt ≤ 9) : Ok (F_X8_learn (some s) l1 l2 a v M) (fun M' => k_Fs s M M' ∧ k_X M' s e (s_kw σ h t a v)) := by
  have n := s_Vn X.2.2
  have z0 : (0 : Int32).toInt = 0 := rfl
  rw [C_learn X.1.2 h1 h2 (by omega) ht]
  have f : k_Fs s M (mI (mI M (s + 1) (7 * h + t) a) (s + 2) (7 * h + t) v) := k_Fs_tr (k_Fs_up (by omega)) (k_Fs_up (by omega))
  refine Ok_s ⟨f, k_X_cell (w := 0) X hd hh ht f (fun i k hi hk => ?_) (fun i k hi => ?_) ?_ (fun h0 => ⟨?_, ha h0⟩) hv.2⟩
  · rw [mI_ne (by omega), mI_ne (by omega)]
  · rw [mI_ne (by omega), mI_ne (by omega)]
  · rw [y_mI1]
    by_cases c : v ≤ 0
    · have := i_le c
      rw [if_pos c]
      exact Int32.toInt_inj.mp (by omega)
    · rw [if_neg c]
  · rw [mI_ne (by omega), y_mI1]
theorem C_forgetX {M : gM} {s e h t : Nat} {σ : Nat → Int32} {l1 l2 a : Int32} (X : k_X M s e σ) (hd : e + 5 < s ∨ s + 4 < e) (h1 : l1.toInt = (h : Int)) (h2 : l2.toInt = (t : Int)) (hh : h < hs_m σ) (ht : t < 7) : Ok (F_X8_forget (some s) l1 l2 M) (fun M' => k_Fs s M M' ∧ k_X M' s e (s_kw σ h t 0 0)) := by
  delta F_X8_forget F_X8_forget_b0
  refine x_gO X.1.2.1.1 ?_
  exact Ok_b (C_learnX X hd h1 h2 hh ht (by decide) (fun h => absurd h (by decide))) (fun M2 z => Ok_s z)
theorem C_errs {M : gM} {s e h t : Nat} {σ : Nat → Int32} {l2 l3 : Int32} (X : k_X M s e σ) (h1 : l2.toInt = (h : Int)) (h2 : l3.toInt = (t : Int)) (hh : h < hs_m σ) (ht : (t : Int) < (σ 1).toInt) : F_X8_errs (some s) (some e) l2 l3 M = some (if (s_kn σ h t && s_va σ h t != σ (10 + 4 * t)) = true then 1 else 0) := by
  obtain ⟨⟨ke, ⟨e6, e7⟩, _⟩, ⟨⟨ks, k1, k2⟩, k3, k4⟩, ⟨r0, r1⟩, r2, r3⟩ := k_XE X
  have nn := s_Vn X.2.2
  have ht7 : t < 7 := by omega
  have ix := k_ix h1 h2 (by omega) ht7
  have R0 : g_k M (e + 1) = (20, 7) ∧ M.2.2.2 e 0 = some (e + 1) := k_XR (i := 0) X (by decide)
  have so : M.2.1 (e + 1) t = σ (10 + 4 * t) := (X.2.1.1.2.2.1 t ht).1.1
  have kp := (k_Xpos X hh (t := t) ht7).1
  delta F_X8_errs F_X8_errs_b0 F_X8_errs_b38
  rw [t_gR ks r1, Option.bind_some, t_aI k2 (by omega) (by omega), Option.bind_some, i_cl ix, (k_Xst X hh ht7).1]
  by_cases k : s_kn σ h t = true
  · rw [if_neg (fun z => by rw [kp.mp z] at k; cases k), t_gR ks r0, Option.bind_some, t_aI k1 (by omega) (by omega), Option.bind_some, i_cl ix, (k_Xst X hh ht7).2 k, t_gR ke R0.2, Option.bind_some, t_aI R0.1 (by omega) (by omega), Option.bind_some, i_cl h2, so]
    by_cases c : s_va σ h t = σ (10 + 4 * t)
    · rw [if_pos c, if_neg (by simp [c])]
    · rw [if_neg c, if_pos (by simp [k, c])]
  · rw [if_pos (kp.mpr (b_ff k)), if_neg (by simp [k])]
/-- asked: who errs knows it no more -/
def s_ak (σ : Nat → Int32) (h t : Nat) : Nat → Int32 := if (s_kn σ h t && s_va σ h t != σ (10 + 4 * t)) = true then s_kw σ h t 0 0 else σ
theorem C_isAsked {M : gM} {s e h t : Nat} {σ : Nat → Int32} {l2 l3 : Int32} (X : k_X M s e σ) (hd : e + 5 < s ∨ s + 4 < e) (h1 : l2.toInt = (h : Int)) (h2 : l3.toInt = (t : Int)) (hh : h < hs_m σ) (ht : (t : Int) < (σ 1).toInt) : Ok (F_X8_isAsked (some s) (some e) l2 l3 M) (fun M' => k_Fs s M M' ∧ k_X M' s e (s_ak σ h t)) := by
  have nn := s_Vn X.2.2
  delta F_X8_isAsked F_X8_isAsked_b0
  refine x_gO X.1.2.1.1 (x_eq (C_errs X h1 h2 hh ht) ?_)
  unfold s_ak
  by_cases c : (s_kn σ h t && s_va σ h t != σ (10 + 4 * t)) = true
  · rw [if_pos c, if_pos c]
    refine Ok_e (by decide) ?_
    exact Ok_b (C_forgetX (a := 0) X hd h1 h2 hh (by omega)) (fun M3 z => Ok_s z)
  · rw [if_neg c, if_neg c]
    exact Ok_t rfl (Ok_s ⟨k_Fs_rf, X⟩)
/-! the reference's -/
theorem y_tS59 {k : Nat} (h : 51 ≤ k) : y_tS k = (-2147483648, 2147483647) := y_dS h
/-- a cell of 'said' set -/
theorem e_s185 {M : gM} {σ : Nat → Int32} {j v : Int32} {k : Nat} {β : Type} {f : gM → Option β} {Q : β → Prop} (H : y_HT M) (hσ : M.2.1 185 = σ) (hj : j.toInt = (k : Int)) (hk : k < 157) (hr : y_rg (y_tS k) v) (g : ∀ M', y_HT M' → y_Fr (2 ^ 50) M M' → M'.2.1 185 = hs_set σ k v → Ok (f M') Q) : Ok ((sI M (some 185) j v).bind f) Q := by
  refine y_sI (S := 2 ^ 50) H (i := 185) (n := 157) rfl (by omega) (by omega) (by rw [i_cl hj]; exact hr) (by decide) (fun M' H' f' e' o' l' => ?_)
  rw [i_cl hj] at e' o'
  refine g M' H' f' ?_
  funext a
  show M'.2.1 185 a = if a = k then v else σ a
  by_cases c : a = k
  · rw [if_pos c, c]
    exact e'
  · rw [if_neg c, o' 185 a (Or.inr c), hσ]
theorem e_r20 {M : gM} {β : Type} {f : Option Nat → Option β} {Q : β → Prop} (H : y_HT M) (g : Ok (f (some 185)) Q) : Ok ((gR 12 M (some 175) 20).bind f) Q := by
  rw [e_gR H (w := 185) rfl (by decide), Option.bind_some]
  exact g
theorem E_knowsNow {M : gM} {σ : Nat → Int32} {l1 l2 a v : Int32} {h t : Nat} (X : e_V M σ) (h1 : l1.toInt = (h : Int)) (h2 : l2.toInt = (t : Int)) (hh : h < 7) (ht : t < 7) (hv : v.toInt ≤ 99) (ha : 0 < v.toInt → 0 ≤ a.toInt ∧ a.toInt ≤ 9) : Ok (F_X12_knowsNow (some 175) l1 l2 a v M) (fun M' => y_Fr (2 ^ 50) M M' ∧ e_V M' (s_kw σ h t a v)) := by
  obtain ⟨i1, i2⟩ := E_ix h1 h2 hh ht
  have V' := kw_V (h := h) X.2.2 ht hv ha
  have go : ∀ (p q : Int32), p = (if v ≤ 0 then -1 else a) → q = (if v ≤ 0 then 0 else v) → Ok ((sI M (some 185) (((59 : Int32) + ((14 : Int32) * l1)) + ((2 : Int32) * l2)) p).bind fun M1 => (gR 12 M1 (some 175) 20).bind fun v2 => (sI M1 v2 ((((59 : Int32) + ((14 : Int32) * l1)) + ((2 : Int32) * l2)) + (1 : Int32)) q).bind fun M1 => some M1) (fun M' => y_Fr (2 ^ 50) M M' ∧ e_V M' (s_kw σ h t a v)) := by
    intro p q hp hq
    refine e_s185 X.1 X.2.1 i1 (by omega) (y_full (y_dS (by omega))) (fun M1 H1 f1 e1 => ?_)
    refine e_r20 H1 ?_
    refine e_s185 H1 e1 i2 (by omega) (y_full (y_dS (by omega))) (fun M2 H2 f2 e2 => ?_)
    refine Ok_s ⟨y_tr f1 f2, H2, ?_, V'⟩
    rw [e2, hp, hq]
    rfl
  delta F_X12_knowsNow F_X12_knowsNow_b0 F_X12_knowsNow_b25 F_X12_knowsNow_b54
  refine e_r20 X.1 ?_
  by_cases c : v ≤ 0
  · simp only [if_pos c]
    exact go _ _ (if_pos c).symm (if_pos c).symm
  · simp only [if_neg c]
    exact go _ _ (if_neg c).symm (if_neg c).symm
theorem kw_a0 {σ : Nat → Int32} {h t : Nat} {a b : Int32} : s_kw σ h t a 0 = s_kw σ h t b 0 := rfl
theorem E_asks {M : gM} {σ : Nat → Int32} {l1 l2 : Int32} {h t : Nat} (X : e_V M σ) (h1 : l1.toInt = (h : Int)) (h2 : l2.toInt = (t : Int)) (hh : h < 7) (ht : t < 7) : Ok (F_X12_asks (some 175) l1 l2 M) (fun r => r.1 = (if s_kn σ h t = true then s_va σ h t else 10) ∧ y_Fr (2 ^ 50) M r.2 ∧ e_V r.2 (s_ak σ h t)) := by
  have z0 : (0 : Int32).toInt = 0 := rfl
  delta F_X12_asks F_X12_asks_b0 F_X12_asks_b29
  rw [e_gO X.1, Option.bind_some, E_valueOf X h1 h2 hh ht, Option.bind_some]
  unfold s_ak
  by_cases k : s_kn σ h t = true
  · have k' := of_decide_eq_true k
    have p0 : (0 : Int32) ≤ s_va σ h t := Int32.le_iff_toInt_le.mpr (by omega)
    rw [if_neg (fun z => by have := i_lt z; omega), E_thingOf X h2 (w := 0) rfl ht (by decide), Option.bind_some, show 10 + 4 * t + 0 = 10 + 4 * t by omega, if_pos k]
    by_cases c : s_va σ h t = σ (10 + 4 * t)
    · rw [if_pos c, if_pos p0, if_neg (by simp [c])]
      exact Ok_s ⟨rfl, y_rf0 _ _, X⟩
    · rw [if_neg c, if_pos (show (s_kn σ h t && s_va σ h t != σ (10 + 4 * t)) = true by simp [k, c])]
      refine Ok_b (E_knowsNow X h1 h2 hh ht (by decide) (fun h => absurd h (by decide))) (fun M4 z => ?_)
      rw [if_pos p0]
      exact Ok_s ⟨rfl, z.1, z.2⟩
  · have k' := of_decide_eq_false (b_ff k)
    rw [if_pos (Int32.lt_iff_toInt_lt.mpr (by omega)), if_neg (fun z => by have := i_le z; omega), if_neg k, if_neg (by simp [k])]
    exact Ok_s ⟨rfl, y_rf0 _ _, X⟩
/-! told: of both -/
def s_tw (σ : Nat → Int32) (f t : Nat) (w : Bool) : Int32 := if w = true then s_st σ f t else if (1 : Int32) ≤ s_st σ f t / 2 then s_st σ f t / 2 else 1
def s_tk (σ : Nat → Int32) (f o t : Nat) : Bool := decide ((s_st σ o t).toInt < (s_st σ f t).toInt)
def s_td (σ : Nat → Int32) (f o t : Nat) (w : Bool) : Nat → Int32 := if s_tk σ f o t = true then s_kw σ o t (s_va σ f t) (s_tw σ f t w) else σ
theorem s_tw_r {σ : Nat → Int32} {f t : Nat} {w : Bool} (V : s_V σ) (hf : f < hs_m σ) (ht : t < 7) (k : s_kn σ f t = true) : 1 ≤ (s_tw σ f t w).toInt ∧ (s_tw σ f t w).toInt ≤ 99 := by
  have kv := s_kn1 V hf ht k
  have d := i_div (x := s_st σ f t) (c := (2 : Int32)) (n := 2) rfl (by decide) (by omega)
  have z1 : (1 : Int32).toInt = 1 := rfl
  unfold s_tw
  cases w with
  | true =>
    rw [if_pos rfl]
    exact kv.2
  | false =>
    rw [if_neg (by decide)]
    by_cases c : (1 : Int32) ≤ s_st σ f t / 2
    · have := i_le c
      rw [if_pos c]
      omega
    · rw [if_neg c]
      decide
theorem C_takes {M : gM} {s e f o t : Nat} {σ : Nat → Int32} {l1 l2 l3 l4 : Int32} (X : k_X M s e σ) (hd : e + 5 < s ∨ s + 4 < e) (h1 : l1.toInt = (o : Int)) (h2 : l2.toInt = (f : Int)) (h3 : l3.toInt = (t : Int)) (ho : o < hs_m σ) (hf : f < hs_m σ) (ht : t < 7) (k : s_kn σ f t = true) : Ok (F_X8_takes (some s) l1 l2 l3 l4 M) (fun r => r.1 = (if s_tk σ f o t = true then 1 else 0) ∧ k_Fs s M r.2 ∧ k_X r.2 s e (s_td σ f o t (decide (l4 ≠ 0)))) := by
  obtain ⟨⟨ke, ⟨e6, e7⟩, _⟩, ⟨⟨ks, k1, k2⟩, k3, k4⟩, ⟨r0, r1⟩, r2, r3⟩ := k_XE X
  have nn := s_Vn X.2.2
  have ix := k_ix h2 h3 (by omega) ht
  have iy := k_ix h1 h3 (by omega) ht
  have kv := s_kn1 X.2.2 hf ht k
  delta F_X8_takes F_X8_takes_b0 F_X8_takes_b63
  rw [t_gR ks r1, Option.bind_some, t_aI k2 (by omega) (by omega), Option.bind_some, i_cl ix, (k_Xst X hf ht).1, Option.bind_some, t_aI k2 (by omega) (by omega), Option.bind_some, i_cl iy, (k_Xst X ho ht).1]
  unfold s_td s_tk
  by_cases c : s_st σ o t < s_st σ f t
  · have c' := i_lt c
    have dt : decide ((s_st σ o t).toInt < (s_st σ f t).toInt) = true := decide_eq_true c'
    rw [if_pos c, t_gR ks r0, Option.bind_some, t_aI k1 (by omega) (by omega), Option.bind_some, i_cl ix, (k_Xst X hf ht).2 k, dt, if_pos rfl, if_pos rfl]
    have go : ∀ {v : Int32} {w : Bool}, v = s_tw σ f t w → Ok ((gO 8 M (some s)).bind fun i1 => (F_X8_learn (some i1) l1 l3 (s_va σ f t) v M).bind fun M2 => some ((1 : Int32), M2)) (fun r => r.1 = 1 ∧ k_Fs s M r.2 ∧ k_X r.2 s e (s_kw σ o t (s_va σ f t) (s_tw σ f t w))) := by
      intro v w hv
      have r := s_tw_r (w := w) X.2.2 hf ht k
      subst hv
      refine x_gO ks ?_
      exact Ok_b (C_learnX X hd h1 h3 ho ht (by omega) (fun _ => kv.1)) (fun M2 z => Ok_s ⟨rfl, z⟩)
    by_cases c4 : l4 = 0
    · rw [if_pos c4, decide_eq_false (fun h => h c4)]
      refine go ?_
      unfold s_tw
      simp only [Bool.false_eq_true, if_false]
      have d := i_div (x := s_st σ f t) (c := (2 : Int32)) (n := 2) rfl (by decide) (by omega)
      have z1 : (1 : Int32).toInt = 1 := rfl
      by_cases ch : (1 : Int32) < s_st σ f t / 2
      · have := i_lt ch
        rw [if_pos ch, if_pos (Int32.le_iff_toInt_le.mpr (by omega))]
      · have := i_nlt ch
        rw [if_neg ch]
        by_cases c1 : (1 : Int32) ≤ s_st σ f t / 2
        · have := i_le c1
          rw [if_pos c1]
          exact Int32.toInt_inj.mp (by omega)
        · rw [if_neg c1]
    · rw [if_neg c4, decide_eq_true c4]
      exact go rfl
  · have c' := i_nlt c
    rw [if_neg c, decide_eq_false (by omega), if_neg (by decide), if_neg (by decide)]
    exact Ok_s ⟨rfl, k_Fs_rf, X⟩
theorem E_takes {M : gM} {f o t : Nat} {σ : Nat → Int32} {l1 l2 l3 l4 : Int32} {w : Bool} (X : e_V M σ) (h1 : l1.toInt = (f : Int)) (h2 : l2.toInt = (o : Int)) (h3 : l3.toInt = (t : Int)) (hf : f < hs_m σ) (ho : o < hs_m σ) (ht : t < 7) (k : s_kn σ f t = true) (h4 : l4 = if w = true then s_st σ f t else s_st σ f t / 2) : Ok (F_X12_takes (some 175) l1 l2 l3 l4 M) (fun r => r.1 = (if s_tk σ f o t = true then 1 else 0) ∧ y_Fr (2 ^ 50) M r.2 ∧ e_V r.2 (s_td σ f o t w)) := by
  have nn := s_Vn X.2.2
  have kv := s_kn1 X.2.2 hf ht k
  have z1 : (1 : Int32).toInt = 1 := rfl
  have go : s_tk σ f o t = true → Ok (F_X12_takes_b26 (some 175) l1 l2 l3 l4 M) (fun r => r.1 = (if s_tk σ f o t = true then 1 else 0) ∧ y_Fr (2 ^ 50) M r.2 ∧ e_V r.2 (s_td σ f o t w)) := by
    intro c
    have r := s_tw_r (w := w) X.2.2 hf ht k
    unfold s_td
    rw [if_pos c, if_pos c]
    delta F_X12_takes_b26 F_X12_takes_b47
    rw [e_gO X.1, Option.bind_some, E_valueOf X h1 h3 (by omega) ht, Option.bind_some]
    have fin : ∀ {v : Int32}, v = s_tw σ f t w → Ok ((gO 12 M (some 175)).bind fun i1 => (F_X12_knowsNow (some i1) l2 l3 (s_va σ f t) v M).bind fun M2 => some ((1 : Int32), M2)) (fun r => r.1 = 1 ∧ y_Fr (2 ^ 50) M r.2 ∧ e_V r.2 (s_kw σ o t (s_va σ f t) (s_tw σ f t w))) := by
      intro v hv
      subst hv
      rw [e_gO X.1, Option.bind_some]
      exact Ok_b (E_knowsNow X h2 h3 (by omega) ht r.2 (fun _ => kv.1)) (fun M2 z => Ok_s ⟨rfl, z⟩)
    have e4 : (if (1 : Int32) ≤ l4 then l4 else 1) = s_tw σ f t w := by
      unfold s_tw
      cases w with
      | true =>
        rw [if_pos rfl] at h4
        rw [if_pos rfl, h4, if_pos (Int32.le_iff_toInt_le.mpr (by omega))]
      | false =>
        rw [if_neg (by decide)] at h4
        simp only [Bool.false_eq_true, if_false]
        rw [h4]
    by_cases c1 : (1 : Int32) ≤ l4
    · rw [if_pos c1]
      rw [if_pos c1] at e4
      exact fin e4
    · rw [if_neg c1]
      rw [if_neg c1] at e4
      exact fin e4
  delta F_X12_takes F_X12_takes_b0
  rw [e_gO X.1, Option.bind_some, E_knowsOf X h2 h3 (by omega) ht, Option.bind_some]
  by_cases ko : s_kn σ o t = true
  · rw [if_pos ko, if_neg (by decide), E_strengthOf X h2 h3 (by omega) ht, Option.bind_some, E_strengthOf X h1 h3 (by omega) ht, Option.bind_some]
    by_cases c : s_st σ o t < s_st σ f t
    · rw [if_pos c]
      exact go (decide_eq_true (i_lt c))
    · have c' := i_nlt c
      have cf : s_tk σ f o t = false := decide_eq_false (by omega)
      unfold s_td
      rw [if_neg c, cf, if_neg (by decide), if_neg (by decide)]
      exact Ok_s ⟨rfl, y_rf0 _ _, X⟩
  · rw [if_neg ko, if_pos rfl]
    have k0 := s_kn0 X.2.2 ho ht (b_ff ko)
    refine go (decide_eq_true ?_)
    rw [k0.2]
    show (0 : Int) < _
    omega
-- 7z9e.year
/-! a YEAR, when all losses are known: of the cells -/
def s_f1 (σ : Nat → Int32) (L : Nat → Nat → Int32) (h t : Nat) : Nat → Int32 := if s_kn σ h t = true then s_kw σ h t (s_va σ h t) (s_st σ h t - L h t) else σ
def s_fh (σ : Nat → Int32) (L : Nat → Nat → Int32) (h : Nat) : Nat → Nat → Int32
  | 0 => σ
  | t + 1 => s_f1 (s_fh σ L h t) L h t
def s_fo (σ : Nat → Int32) (L : Nat → Nat → Int32) : Nat → Nat → Int32
  | 0 => σ
  | h + 1 => s_fh (s_fo σ L h) L h (hs_n σ)
def s_a1 (σ : Nat → Int32) (h : Nat) : Nat → Int32 := hs_set σ (38 + 2 * h) (if σ (38 + 2 * h) + 1 < 99 then σ (38 + 2 * h) + 1 else 99)
def s_ag (σ : Nat → Int32) : Nat → Nat → Int32
  | 0 => σ
  | h + 1 => s_a1 (s_ag σ h) h
def s_kc (σ : Nat → Int32) (t : Nat) : Bool := decide ((σ (13 + 4 * t)).toInt < 0) && s_hs σ t == 0
def s_ks (σ : Nat → Int32) : Nat → Int32 × (Nat → Int32)
  | 0 => (0, σ)
  | t + 1 => if s_kc (s_ks σ t).2 t = true then ((s_ks σ t).1 + 1, hs_set (s_ks σ t).2 (13 + 4 * t) ((s_ks σ t).2 4)) else s_ks σ t
def s_p3 (σ : Nat → Int32) (L : Nat → Nat → Int32) : Int32 × (Nat → Int32) := s_ks (s_ag (s_fo σ L (hs_m σ)) (hs_m σ)) (hs_n σ)
def s_ps (σ : Nat → Int32) (L : Nat → Nat → Int32) : Int32 × (Nat → Int32) := ((s_p3 σ L).1, hs_set (s_p3 σ L).2 4 ((s_p3 σ L).2 4 + 1))
/-- losses that can be -/
def s_LV (L : Nat → Nat → Int32) : Prop := ∀ h t, 0 ≤ (L h t).toInt ∧ (L h t).toInt ≤ 99
theorem f1_lo {σ : Nat → Int32} {L : Nat → Nat → Int32} {h t j : Nat} (hj : j < 59) : s_f1 σ L h t j = σ j := by
  unfold s_f1
  by_cases c : s_kn σ h t = true
  · rw [if_pos c, kw_lo hj]
  · rw [if_neg c]
theorem fh_lo {σ : Nat → Int32} {L : Nat → Nat → Int32} {h j : Nat} (hj : j < 59) : ∀ k, s_fh σ L h k j = σ j := by
  intro k
  induction k with
  | zero => rfl
  | succ k ih => exact (f1_lo hj).trans ih
theorem fo_lo {σ : Nat → Int32} {L : Nat → Nat → Int32} {j : Nat} (hj : j < 59) : ∀ k, s_fo σ L k j = σ j := by
  intro k
  induction k with
  | zero => rfl
  | succ k ih => exact (fh_lo hj _).trans ih
theorem nm_of {σ σ' : Nat → Int32} (h : ∀ j, j < 3 → σ' j = σ j) : hs_n σ' = hs_n σ ∧ hs_m σ' = hs_m σ := by
  unfold hs_n hs_m
  rw [h 1 (by decide), h 2 (by decide)]
  exact ⟨rfl, rfl⟩
theorem f1_V {σ : Nat → Int32} {L : Nat → Nat → Int32} {h t : Nat} (V : s_V σ) (LV : s_LV L) (hh : h < hs_m σ) (ht : t < 7) : s_V (s_f1 σ L h t) := by
  unfold s_f1
  by_cases c : s_kn σ h t = true
  · have kv := s_kn1 V hh ht c
    have l := LV h t
    have e := i_sub (x := s_st σ h t) (y := L h t) (by omega) (by omega)
    rw [if_pos c]
    exact kw_V V ht (by omega) (fun _ => kv.1)
  · rw [if_neg c]
    exact V
theorem fh_V {σ : Nat → Int32} {L : Nat → Nat → Int32} {h : Nat} (V : s_V σ) (LV : s_LV L) (hh : h < hs_m σ) : ∀ k, k ≤ 7 → s_V (s_fh σ L h k) := by
  intro k
  induction k with
  | zero => intro _; exact V
  | succ k ih =>
    intro hk
    refine f1_V (ih (by omega)) LV ?_ (by omega)
    rw [(nm_of (fun j hj => fh_lo (by omega) k)).2]
    exact hh
theorem fo_V {σ : Nat → Int32} {L : Nat → Nat → Int32} (V : s_V σ) (LV : s_LV L) : ∀ k, k ≤ hs_m σ → s_V (s_fo σ L k) := by
  intro k
  induction k with
  | zero => intro _; exact V
  | succ k ih =>
    intro hk
    refine fh_V (ih (by omega)) LV ?_ _ (s_Vn V).1.2
    rw [(nm_of (fun j hj => fo_lo (by omega) k)).2]
    exact hk
/-- what has not been reached yet -/
theorem fh_ne {σ : Nat → Int32} {L : Nat → Nat → Int32} {h h' t' : Nat} (ht' : t' < 7) : ∀ k, k ≤ 7 → (h' ≠ h ∨ k ≤ t') → s_va (s_fh σ L h k) h' t' = s_va σ h' t' ∧ s_st (s_fh σ L h k) h' t' = s_st σ h' t' := by
  intro k
  induction k with
  | zero => intro _ _; exact ⟨rfl, rfl⟩
  | succ k ih =>
    intro hk hn
    have ih := ih (by omega) (by omega)
    show s_va (s_f1 (s_fh σ L h k) L h k) h' t' = _ ∧ s_st (s_f1 (s_fh σ L h k) L h k) h' t' = _
    unfold s_f1
    by_cases c : s_kn (s_fh σ L h k) h k = true
    · rw [if_pos c]
      have := kw_ne (σ := s_fh σ L h k) (h := h) (t := k) (h' := h') (t' := t') (a := s_va (s_fh σ L h k) h k) (v := s_st (s_fh σ L h k) h k - L h k) (by omega) ht' (by omega)
      exact ⟨this.1.trans ih.1, this.2.trans ih.2⟩
    · rw [if_neg c]
      exact ih
theorem fo_ne {σ : Nat → Int32} {L : Nat → Nat → Int32} {h' t' : Nat} (ht' : t' < 7) (hn7 : hs_n σ ≤ 7) : ∀ k, k ≤ h' → s_va (s_fo σ L k) h' t' = s_va σ h' t' ∧ s_st (s_fo σ L k) h' t' = s_st σ h' t' := by
  intro k
  induction k with
  | zero => intro _; exact ⟨rfl, rfl⟩
  | succ k ih =>
    intro hk
    have ih := ih (by omega)
    have := fh_ne (σ := s_fo σ L k) (L := L) (h := k) (h' := h') ht' (hs_n σ) hn7 (Or.inl (by omega))
    exact ⟨this.1.trans ih.1, this.2.trans ih.2⟩
theorem kn_of {σ σ' : Nat → Int32} {h t : Nat} (e : s_va σ' h t = s_va σ h t) : s_kn σ' h t = s_kn σ h t := by
  unfold s_kn
  rw [e]
theorem kw_self {σ : Nat → Int32} {h t : Nat} {a : Int32} (h1 : s_va σ h t = -1) (h2 : s_st σ h t = 0) : s_kw σ h t a 0 = σ := by
  funext j
  unfold s_kw
  by_cases c : j = 60 + 14 * h + 2 * t
  · subst c
    rw [hs_se]
    exact h2.symm
  · rw [hs_sn c]
    by_cases c2 : j = 59 + 14 * h + 2 * t
    · subst c2
      rw [hs_se]
      exact h1.symm
    · rw [hs_sn c2]
theorem kw_le {σ : Nat → Int32} {h t : Nat} {a v : Int32} (c : v ≤ 0) : s_kw σ h t a v = s_kw σ h t 0 0 := by
  unfold s_kw
  rw [if_pos c, if_pos c, if_pos (by decide), if_pos (by decide)]
/-! the class -/
/-- the years' own things -/
def k_Y (M : gM) : Prop := ((g_k M 4 = (10, 0) ∧ g_k M 5 = (20, 49)) ∧ g_k M 6 = (5, 0)) ∧ (M.2.2.2 4 0 = some 5 ∧ M.2.2.2 4 1 = some 6)
theorem k_Y_m {M M' : gM} (Y : k_Y M) (h1 : M'.1 = M.1) (h2 : M'.2.2.2 = M.2.2.2) : k_Y M' := by
  have hk : ∀ i, g_k M' i = g_k M i := fun i => q_k_of h1
  unfold k_Y at Y ⊢
  simp only [hk, h2]
  exact Y
/-- the losses are in place -/
def k_Ls (M : gM) (σ : Nat → Int32) (L : Nat → Nat → Int32) : Prop := ∀ h t, h < hs_m σ → t < hs_n σ → M.2.1 5 (7 * h + t) = if s_kn σ h t = true then L h t else 0
def k_FC (M0 : gM) (s e : Nat) (M : gM) (σ : Nat → Int32) : Prop := k_Fs s M0 M ∧ k_X M s e σ
theorem C_fade_cell {M0 M : gM} {s e h j : Nat} {σ0 σ : Nat → Int32} {L : Nat → Nat → Int32} {l3 l4 : Int32} {β : Type} {f : Option Nat → gM → Option β} {P : β → Prop} (hs5 : 5 < s) (hd : e + 5 < s ∨ s + 4 < e) (Y : k_Y M0) (LV : s_LV L) (LS : k_Ls M0 σ0 L) (hn : hs_n σ = hs_n σ0 ∧ hs_m σ = hs_m σ0) (hva : s_va σ h j = s_va σ0 h j) (C : k_FC M0 s e M σ) (h3 : l3.toInt = (h : Int)) (h4 : l4.toInt = (j : Int)) (hh : h < hs_m σ) (hj : j < hs_n σ)
    (g : ∀ M', k_FC M0 s e M' (s_f1 σ L h j) → Ok (f (some s) M') P) : Ok ((gR 10 M (some 4) 0).bind fun v2 => (aI 20 M v2 ((l3 * (7 : Int32)) + l4)).bind fun v3 => (gR 8 M (some s) 1).bind fun v4 => (aI 20 M v4 ((l3 * (7 : Int32)) + l4)).bind fun v5 => if v5 ≤ v3 then ((gO 8 M (some s)).bind fun i6 => (F_X8_forget (some i6) l3 l4 M).bind fun M7 => f (some i6) M7) else ((gR 8 M (some s) 1).bind fun v8 => (aI 20 M v8 ((l3 * (7 : Int32)) + l4)).bind fun v9 => (gR 10 M (some 4) 0).bind fun v10 => (aI 20 M v10 ((l3 * (7 : Int32)) + l4)).bind fun v11 => (sI M v8 ((l3 * (7 : Int32)) + l4) (v9 - v11)).bind fun M12 => f (some s) M12)) P := by
  obtain ⟨F, X⟩ := C
  obtain ⟨⟨ke, ⟨e6, e7⟩, _⟩, ⟨⟨ks, k1, k2⟩, k3, k4⟩, ⟨r0, r1⟩, r2, r3⟩ := k_XE X
  have nn := s_Vn X.2.2
  have ix := k_ix h3 h4 (by omega) (by omega)
  obtain ⟨⟨⟨y4, y5⟩, y6⟩, y0, y1⟩ := k_Y_m Y F.1.1.1 F.1.2
  have el : M.2.1 5 (7 * h + j) = if s_kn σ h j = true then L h j else 0 := by
    rw [F.2 5 (by omega), kn_of hva]
    exact LS h j (by omega) (by omega)
  have st := (k_Xst X hh (t := j) (by omega)).1
  refine x_gR y4 y0 (x_aI y5 ix (by omega) el ?_)
  refine x_gR ks r1 (x_aI k2 ix (by omega) st ?_)
  have z0 : (0 : Int32).toInt = 0 := rfl
  unfold s_f1 at g
  by_cases k : s_kn σ h j = true
  · have kv := s_kn1 X.2.2 hh (t := j) (by omega) k
    have l := LV h j
    have es := i_sub (x := s_st σ h j) (y := L h j) (by omega) (by omega)
    rw [if_pos k]
    rw [if_pos k] at g
    by_cases c : s_st σ h j ≤ L h j
    · have c' := i_le c
      rw [if_pos c]
      refine x_gO ks ?_
      refine Ok_b (C_forgetX (a := 0) X hd h3 h4 hh (by omega)) (fun M7 z => ?_)
      refine g M7 ⟨k_Fs_tr F z.1, ?_⟩
      rw [kw_le (Int32.le_iff_toInt_le.mpr (by omega))]
      exact z.2
    · have c' := i_nle c
      rw [if_neg c]
      have el2 : M.2.1 5 (7 * h + j) = L h j := by rw [el, if_pos k]
      refine x_gR ks r1 (x_aI k2 ix (by omega) st ?_)
      refine x_gR y4 y0 (x_aI y5 ix (by omega) el2 ?_)
      refine x_sI k2 ix (by omega) ?_
      have f1 : k_Fs s M (mI M (s + 2) (7 * h + j) (s_st σ h j - L h j)) := k_Fs_up (by omega)
      refine g _ ⟨k_Fs_tr F f1, k_X_cell (w := 0) X hd hh (by omega) f1 (fun i k hi hk => mI_ne (by omega)) (fun i k hi => mI_ne (by omega)) ?_ (fun _ => ⟨?_, kv.1⟩) (by omega)⟩
      · rw [y_mI1, if_neg (fun z => by have := i_le z; omega)]
      · rw [mI_ne (by omega)]
        exact (k_Xst X hh (t := j) (by omega)).2 k
  · have k0 := s_kn0 X.2.2 hh (t := j) (by omega) (b_ff k)
    rw [if_neg k]
    rw [if_neg k] at g
    rw [if_pos (show s_st σ h j ≤ 0 by rw [k0.2]; decide)]
    refine x_gO ks ?_
    refine Ok_b (C_forgetX (a := 0) X hd h3 h4 hh (by omega)) (fun M7 z => ?_)
    refine g M7 ⟨k_Fs_tr F z.1, ?_⟩
    have e := z.2
    rw [kw_self k0.1 k0.2] at e
    exact e
theorem C_fade_L13 {M0 : gM} {s e h : Nat} {σ0 : Nat → Int32} {L : Nat → Nat → Int32} {l3 : Int32} {k2 : Option Nat → Option Nat → Option Nat → Int32 → gM → Option gM} {P : gM → Prop} (hs5 : 5 < s) (hd : e + 5 < s ∨ s + 4 < e) (Y : k_Y M0) (V : s_V σ0) (LV : s_LV L) (LS : k_Ls M0 σ0 L) (h3 : l3.toInt = (h : Int)) (hh : h < hs_m σ0)
    (g : ∀ M', k_FC M0 s e M' (s_fo σ0 L (h + 1)) → Ok (k2 (some 4) (some e) (some s) (l3 + 1) M') P) : ∀ (n j : Nat) {l4 : Int32} {M : gM}, k_FC M0 s e M (s_fh (s_fo σ0 L h) L h j) → l4.toInt = (j : Int) → j ≤ hs_n σ0 → hs_n σ0 - j < n → Ok (F_X10_fadeAll_L13 k2 n (some 4) (some e) (some s) l3 l4 M) P := by
  intro n
  induction n with
  | zero => intro j l4 M C h4 hj hn; omega
  | succ n ih =>
    intro j l4 M C h4 hj hn
    have nn0 := s_Vn V
    have en : hs_n (s_fh (s_fo σ0 L h) L h j) = hs_n σ0 ∧ hs_m (s_fh (s_fo σ0 L h) L h j) = hs_m σ0 := nm_of (fun i hi => (fh_lo (by omega) j).trans (fo_lo (by omega) h))
    obtain ⟨⟨ke, ⟨e6, e7⟩, _⟩, _⟩ := k_XE C.2
    have nn := s_Vn C.2.2.2
    show Ok (F_X10_fadeAll_b13 k2 (F_X10_fadeAll_L13 k2 n) (some 4) (some e) (some s) l3 l4 M) P
    delta F_X10_fadeAll_b13 F_X10_fadeAll_b75
    refine x_gI ke e6 ?_
    have c0 := i_le_n h4 nn.1.1
    by_cases c : hs_n σ0 ≤ j
    · have : j = hs_n σ0 := by omega
      subst this
      rw [if_pos (c0.mpr (by omega))]
      exact g M C
    · rw [if_neg (fun z => by have := c0.mp z; omega)]
      have va : s_va (s_fh (s_fo σ0 L h) L h j) h j = s_va σ0 h j := (fh_ne (by omega) j (by omega) (Or.inr (Nat.le_refl _))).1.trans (fo_ne (by omega) nn0.1.2 h (Nat.le_refl _)).1
      refine C_fade_cell (f := fun s' M' => F_X10_fadeAll_L13 k2 n (some 4) (some e) s' l3 (l4 + 1) M') hs5 hd Y LV LS en va C h3 h4 (by omega) (by omega) (fun M' C' => ?_)
      exact ih (j + 1) C' (i_nx h4 (by omega)) (by omega) (by omega)
theorem C_fade_L2 {M0 : gM} {s e : Nat} {σ0 : Nat → Int32} {L : Nat → Nat → Int32} (hs5 : 5 < s) (hd : e + 5 < s ∨ s + 4 < e) (Y : k_Y M0) (V : s_V σ0) (LV : s_LV L) (LS : k_Ls M0 σ0 L) : ∀ (n h : Nat) {l3 : Int32} {M : gM}, k_FC M0 s e M (s_fo σ0 L h) → l3.toInt = (h : Int) → h ≤ hs_m σ0 → hs_m σ0 - h < n → Ok (F_X10_fadeAll_L2 n (some 4) (some e) (some s) l3 M) (fun M' => k_FC M0 s e M' (s_fo σ0 L (hs_m σ0))) := by
  intro n
  induction n with
  | zero => intro h l3 M C h3 hh hn; omega
  | succ n ih =>
    intro h l3 M C h3 hh hn
    have nn0 := s_Vn V
    have en : hs_n (s_fo σ0 L h) = hs_n σ0 ∧ hs_m (s_fo σ0 L h) = hs_m σ0 := nm_of (fun i hi => fo_lo (by omega) h)
    obtain ⟨⟨ke, ⟨e6, e7⟩, _⟩, _⟩ := k_XE C.2
    have nn := s_Vn C.2.2.2
    show Ok (F_X10_fadeAll_b2 (F_X10_fadeAll_L2 n) (some 4) (some e) (some s) l3 M) _
    delta F_X10_fadeAll_b2
    refine x_gI ke e7 ?_
    have c0 := i_le_n h3 nn.2.1
    by_cases c : hs_m σ0 ≤ h
    · have : h = hs_m σ0 := by omega
      subst this
      rw [if_pos (c0.mpr (by omega))]
      exact Ok_s C
    · rw [if_neg (fun z => by have := c0.mp z; omega)]
      exact C_fade_L13 hs5 hd Y V LV LS h3 (by omega) (fun M' C' => ih (h + 1) C' (i_nx h3 (by omega)) (by omega) (by omega)) g_fuel 0 (l4 := 0) C rfl (Nat.zero_le _) (n_fu (by omega))
theorem a1_o {σ : Nat → Int32} {h j : Nat} (hj : j ≠ 38 + 2 * h) : s_a1 σ h j = σ j := hs_sn hj
theorem a1_r {x : Int32} (h : 0 ≤ x.toInt ∧ x.toInt ≤ 99) : 0 ≤ (if x + 1 < 99 then x + 1 else (99 : Int32)).toInt ∧ (if x + 1 < 99 then x + 1 else (99 : Int32)).toInt ≤ 99 := by
  have e := i_addc (x := x) (c := (1 : Int32)) (n := 1) rfl (by omega) (by omega)
  have e' : (x + 1).toInt = x.toInt + 1 := e
  have z : (99 : Int32).toInt = 99 := rfl
  by_cases c : x + 1 < 99
  · have := i_lt c
    rw [if_pos c]
    omega
  · rw [if_neg c]
    decide
theorem a1_V {σ : Nat → Int32} {h : Nat} (V : s_V σ) (hh : h < hs_m σ) : s_V (s_a1 σ h) := by
  have nn := s_Vn V
  obtain ⟨V1, V2, V3, V4⟩ := V
  have o : ∀ j, (∀ k, k < 7 → j ≠ 38 + 2 * k) → s_a1 σ h j = σ j := fun j hj => a1_o (hj h (by omega))
  refine ⟨by rw [o 1 (fun k _ => by omega), o 2 (fun k _ => by omega)]; exact V1, fun h' t' hh' ht' => ?_, fun t' ht' => ?_, fun h' hh' => ?_⟩
  · rw [o 2 (fun k _ => by omega)] at hh'
    unfold s_va s_st
    rw [a1_o (by omega), a1_o (by omega)]
    exact V2 h' t' hh' ht'
  · rw [o 1 (fun k _ => by omega)] at ht'
    rw [a1_o (by omega), a1_o (by omega), a1_o (by omega), a1_o (by omega)]
    exact V3 t' ht'
  · rw [o 2 (fun k _ => by omega)] at hh'
    rw [a1_o (j := 39 + 2 * h') (by omega)]
    refine ⟨?_, (V4 h' hh').2⟩
    by_cases e : h' = h
    · subst e
      unfold s_a1
      rw [hs_se]
      exact a1_r (V4 h' hh').1
    · rw [a1_o (by omega)]
      exact (V4 h' hh').1
-- 7z9f.cpass
/-! a YEAR of the class, when the losses lie there -/
theorem ag_o {σ : Nat → Int32} {j : Nat} (hj : ∀ k, k < 7 → j ≠ 38 + 2 * k) : ∀ k, k ≤ 7 → s_ag σ k j = σ j := by
  intro k
  induction k with
  | zero => intro _; rfl
  | succ k ih => intro hk; exact (a1_o (hj k (by omega))).trans (ih (by omega))
theorem ag_V {σ : Nat → Int32} (V : s_V σ) : ∀ k, k ≤ hs_m σ → s_V (s_ag σ k) := by
  intro k
  have nn := s_Vn V
  induction k with
  | zero => intro _; exact V
  | succ k ih =>
    intro hk
    refine a1_V (ih (by omega)) ?_
    rw [(nm_of (fun j hj => ag_o (fun i hi => by omega) k (by omega))).2]
    exact hk
theorem ks_o {σ : Nat → Int32} {j : Nat} (hj : ∀ k, k < 7 → j ≠ 13 + 4 * k) : ∀ k, k ≤ 7 → (s_ks σ k).2 j = σ j := by
  intro k
  induction k with
  | zero => intro _; rfl
  | succ k ih =>
    intro hk
    show (if s_kc (s_ks σ k).2 k = true then ((s_ks σ k).1 + 1, hs_set (s_ks σ k).2 (13 + 4 * k) ((s_ks σ k).2 4)) else s_ks σ k).2 j = _
    by_cases c : s_kc (s_ks σ k).2 k = true
    · rw [if_pos c]
      exact (hs_sn (hj k (by omega))).trans (ih (by omega))
    · rw [if_neg c]
      exact ih (by omega)
theorem st_V {σ : Nat → Int32} {t : Nat} {y : Int32} (V : s_V σ) (ht : t < 7) (hy : -1 ≤ y.toInt) : s_V (hs_set σ (13 + 4 * t) y) := by
  obtain ⟨V1, V2, V3, V4⟩ := V
  refine ⟨by rw [hs_sn (by omega), hs_sn (by omega)]; exact V1, fun h' t' hh' ht' => ?_, fun t' ht' => ?_, fun h' hh' => ?_⟩
  · rw [hs_sn (by omega)] at hh'
    unfold s_va s_st
    rw [hs_sn (by omega), hs_sn (by omega)]
    exact V2 h' t' hh' ht'
  · rw [hs_sn (by omega)] at ht'
    rw [hs_sn (by omega), hs_sn (by omega), hs_sn (by omega)]
    refine ⟨(V3 t' ht').1, (V3 t' ht').2.1, ?_⟩
    by_cases e : t' = t
    · subst e
      rw [hs_se]
      exact hy
    · rw [hs_sn (by omega)]
      exact (V3 t' ht').2.2
  · rw [hs_sn (by omega)] at hh'
    have n2 := V1.2
    rw [hs_sn (by omega), hs_sn (by omega)]
    exact V4 h' hh'
theorem ks_V {σ : Nat → Int32} (V : s_V σ) (hy : 0 ≤ (σ 4).toInt) : ∀ k, k ≤ 7 → s_V (s_ks σ k).2 := by
  intro k
  induction k with
  | zero => intro _; exact V
  | succ k ih =>
    intro hk
    have ih := ih (by omega)
    show s_V (if s_kc (s_ks σ k).2 k = true then ((s_ks σ k).1 + 1, hs_set (s_ks σ k).2 (13 + 4 * k) ((s_ks σ k).2 4)) else s_ks σ k).2
    by_cases c : s_kc (s_ks σ k).2 k = true
    · rw [if_pos c]
      refine st_V ih (by omega) ?_
      rw [ks_o (fun i hi => by omega) k (by omega)]
      omega
    · rw [if_neg c]
      exact ih
theorem p3_4 {σ : Nat → Int32} {L : Nat → Nat → Int32} (V : s_V σ) : (s_p3 σ L).2 4 = σ 4 := by
  have nn := s_Vn V
  unfold s_p3
  rw [ks_o (fun i hi => by omega) _ nn.1.2, ag_o (fun i hi => by omega) _ nn.2.2, fo_lo (by decide)]
theorem yr_V {σ : Nat → Int32} {y : Int32} (V : s_V σ) : s_V (hs_set σ 4 y) := by
  obtain ⟨V1, V2, V3, V4⟩ := V
  refine ⟨by rw [hs_sn (by omega), hs_sn (by omega)]; exact V1, fun h' t' hh' ht' => ?_, fun t' ht' => ?_, fun h' hh' => ?_⟩
  · rw [hs_sn (by omega)] at hh'
    unfold s_va s_st
    rw [hs_sn (by omega), hs_sn (by omega)]
    exact V2 h' t' hh' ht'
  · rw [hs_sn (by omega)] at ht'
    rw [hs_sn (by omega), hs_sn (by omega), hs_sn (by omega), hs_sn (by omega)]
    exact V3 t' ht'
  · rw [hs_sn (by omega)] at hh'
    rw [hs_sn (by omega), hs_sn (by omega)]
    exact V4 h' hh'
theorem p3_nm {σ : Nat → Int32} {L : Nat → Nat → Int32} (V : s_V σ) {j : Nat} (hj : j < 10) : (s_p3 σ L).2 j = σ j := by
  have nn := s_Vn V
  unfold s_p3
  rw [ks_o (fun i hi => by omega) _ nn.1.2, ag_o (fun i hi => by omega) _ nn.2.2, fo_lo (by omega)]
theorem ps_V {σ : Nat → Int32} {L : Nat → Nat → Int32} (V : s_V σ) (LV : s_LV L) (hy : 0 ≤ (σ 4).toInt) : s_V (s_ps σ L).2 := by
  have nn := s_Vn V
  have e := nm_of (σ := σ) (σ' := s_fo σ L (hs_m σ)) (fun j hj => fo_lo (by omega) (hs_m σ))
  refine yr_V (ks_V (ag_V (fo_V V LV _ (Nat.le_refl _)) _ (by rw [e.2]; exact Nat.le_refl _)) ?_ _ nn.1.2)
  rw [ag_o (fun i hi => by omega) _ nn.2.2, fo_lo (by decide)]
  exact hy
theorem C_strike_L5 {M0 : gM} {s e : Nat} {σ0 : Nat → Int32} (hd : e + 5 < s ∨ s + 4 < e) (V : s_V σ0) (hy : 0 ≤ (σ0 4).toInt) : ∀ (n t : Nat) {l3 l4 : Int32} {M : gM}, k_FC M0 s e M (s_ks σ0 t).2 → l3 = (s_ks σ0 t).1 → l4.toInt = (t : Int) → t ≤ hs_n σ0 → hs_n σ0 - t < n → Ok (F_X10_strikeForgotten_L5 n (some e) (some s) l3 l4 M) (fun r => r.1 = (s_ks σ0 (hs_n σ0)).1 ∧ k_FC M0 s e r.2 (s_ks σ0 (hs_n σ0)).2) := by
  intro n
  induction n with
  | zero => intro t l3 l4 M C h3 h4 ht hn; omega
  | succ n ih =>
    intro t l3 l4 M C h3 h4 ht hn
    have nn0 := s_Vn V
    have en := nm_of (σ := σ0) (σ' := (s_ks σ0 t).2) (fun i hi => ks_o (fun k hk => by omega) t (by omega))
    obtain ⟨F, X⟩ := C
    obtain ⟨⟨ke, ⟨e6, e7⟩, _⟩, ⟨⟨ks, k1, k2⟩, k3, k4⟩, ⟨r0, r1⟩, r2, r3⟩ := k_XE X
    have nn := s_Vn X.2.2
    show Ok (F_X10_strikeForgotten_b5 (F_X10_strikeForgotten_L5 n) (some e) (some s) l3 l4 M) _
    delta F_X10_strikeForgotten_b5 F_X10_strikeForgotten_b49
    refine x_gI ke e6 ?_
    have c0 := i_le_n h4 nn.1.1
    by_cases c : hs_n σ0 ≤ t
    · have : t = hs_n σ0 := by omega
      subst this
      rw [if_pos (c0.mpr (by omega))]
      exact Ok_s ⟨h3, F, X⟩
    · have ht' : (t : Int) < ((s_ks σ0 t).2 1).toInt := by omega
      have ss := s_struck X.2.2 ht'
      have stv : M.2.1 (s + 4) t = (s_ks σ0 t).2 (13 + 4 * t) := X.2.1.2.2.2 t ht'
      have nx := i_nx h4 (by omega)
      rw [if_neg (fun z => by have := c0.mp z; omega)]
      refine x_gR ks r3 (x_aI k4 h4 (by omega) stv ?_)
      have step : s_ks σ0 (t + 1) = if s_kc (s_ks σ0 t).2 t = true then ((s_ks σ0 t).1 + 1, hs_set (s_ks σ0 t).2 (13 + 4 * t) ((s_ks σ0 t).2 4)) else s_ks σ0 t := rfl
      have same : s_kc (s_ks σ0 t).2 t = false → Ok (F_X10_strikeForgotten_L5 n (some e) (some s) l3 (l4 + 1) M) (fun r => r.1 = (s_ks σ0 (hs_n σ0)).1 ∧ k_FC M0 s e r.2 (s_ks σ0 (hs_n σ0)).2) := by
        intro kf
        rw [kf, if_neg (by decide)] at step
        exact ih (t + 1) (by rw [step]; exact ⟨F, X⟩) (by rw [step]; exact h3) nx (by omega) (by omega)
      by_cases c1 : ((s_ks σ0 t).2 (13 + 4 * t)).toInt < 0
      · rw [if_pos (ss.mpr c1)]
        refine x_gO ks (x_eq (C_holdersOf X h4 ht') ?_)
        by_cases c2 : s_hs (s_ks σ0 t).2 t = 0
        · have kt : s_kc (s_ks σ0 t).2 t = true := by
            unfold s_kc
            rw [decide_eq_true c1, c2]
            rfl
          rw [if_pos c2]
          rw [kt, if_pos rfl] at step
          have yv : M.2.1 s 5 = (s_ks σ0 t).2 4 := X.2.1.2.1.1.2
          refine x_gR ks r3 (x_gI ks yv (x_sI k4 h4 (by omega) ?_))
          have f1 : k_Fs s M (mI M (s + 4) t ((s_ks σ0 t).2 4)) := k_Fs_up (by omega)
          have y4 : (s_ks σ0 t).2 4 = σ0 4 := ks_o (fun i hi => by omega) t (by omega)
          refine ih (t + 1) ?_ (by rw [step, h3]) nx (by omega) (by omega)
          rw [step]
          dsimp only
          refine ⟨k_Fs_tr F f1, k_X_Fs X hd f1 ?_ (st_V X.2.2 (by omega) (by rw [y4]; omega)) (fun j _ _ _ _ h9 => hs_sn (h9 t (by omega)).1)⟩
          obtain ⟨S1, S2, S3⟩ := X.2.1.2
          refine ⟨?_, fun h' hh' => ?_, fun t' ht'' => ?_⟩
          · rw [hs_sn (by omega), hs_sn (by omega), hs_sn (by omega), mI_ne (by omega), mI_ne (by omega), mI_ne (by omega)]
            exact S1
          · rw [hs_sn (by omega)] at hh'
            rw [hs_sn (by omega), mI_ne (by omega)]
            exact ⟨(S2 h' hh').1, fun tt htt => k_cm ((S2 h' hh').2 tt htt) (mI_ne (by omega)) (mI_ne (by omega)) (hs_sn (by omega)) (hs_sn (by omega))⟩
          · rw [hs_sn (by omega)] at ht''
            by_cases ett : t' = t
            · subst ett
              rw [y_mI1, hs_se]
            · rw [mI_ne (by omega), hs_sn (by omega)]
              exact S3 t' ht''
        · rw [if_neg c2]
          refine same ?_
          unfold s_kc
          rw [decide_eq_true c1]
          simp [c2]
      · rw [if_neg (mt ss.mp c1)]
        refine same ?_
        unfold s_kc
        rw [decide_eq_false c1]
        rfl
theorem C_age_L16 {M0 : gM} {s e : Nat} {σ0 : Nat → Int32} (hd : e + 5 < s ∨ s + 4 < e) (Y : k_Y M0) (hs5 : 5 < s) (V : s_V σ0) (hy : 0 ≤ (σ0 4).toInt) : ∀ (n h : Nat) {l4 : Int32} {M : gM}, k_FC M0 s e M (s_ag σ0 h) → l4.toInt = (h : Int) → h ≤ hs_m σ0 → hs_m σ0 - h < n → Ok (F_X10_pass_L16 n (some 4) (some e) (some s) l4 M) (fun r => r.1 = (s_ks (s_ag σ0 (hs_m σ0)) (hs_n σ0)).1 ∧ k_FC M0 s e r.2 (hs_set (s_ks (s_ag σ0 (hs_m σ0)) (hs_n σ0)).2 4 ((s_ks (s_ag σ0 (hs_m σ0)) (hs_n σ0)).2 4 + 1))) := by
  intro n
  induction n with
  | zero => intro h l4 M C h4 hh hn; omega
  | succ n ih =>
    intro h l4 M C h4 hh hn
    have nn0 := s_Vn V
    have en := nm_of (σ := σ0) (σ' := s_ag σ0 h) (fun i hi => ag_o (fun k hk => by omega) h (by omega))
    obtain ⟨F, X⟩ := C
    obtain ⟨⟨ke, ⟨e6, e7⟩, _⟩, ⟨⟨ks, k1, k2⟩, k3, k4⟩, ⟨r0, r1⟩, r2, r3⟩ := k_XE X
    have nn := s_Vn X.2.2
    show Ok (F_X10_pass_b16 (F_X10_pass_L16 n) (some 4) (some e) (some s) l4 M) _
    delta F_X10_pass_b16
    refine x_gI ke e7 ?_
    have c0 := i_le_n h4 nn.2.1
    by_cases c : hs_m σ0 ≤ h
    · have : h = hs_m σ0 := by omega
      subst this
      rw [if_pos (c0.mpr (by omega))]
      refine x_gO (k_Y_m Y F.1.1.1 F.1.2).1.1.1 ?_
      have y4 : s_ag σ0 (hs_m σ0) 4 = σ0 4 := ag_o (fun i hi => by omega) _ nn0.2.2
      have z := C_strike_L5 (M0 := M0) (σ0 := s_ag σ0 (hs_m σ0)) hd X.2.2 (by rw [y4]; exact hy) g_fuel 0 (l3 := 0) (l4 := 0) (M := M) ⟨F, X⟩ rfl rfl (Nat.zero_le _) (n_fu (by omega))
      rw [en.1] at z
      delta F_X10_strikeForgotten F_X10_strikeForgotten_b0
      refine Ok_b z (fun r q => ?_)
      obtain ⟨v3, M4⟩ := r
      obtain ⟨q1, F4, X4⟩ := q
      dsimp only at q1 F4 X4 ⊢
      obtain ⟨_, ⟨⟨ks', _⟩, _⟩, _⟩ := k_XE X4
      have yv : M4.2.1 s 5 = (s_ks (s_ag σ0 (hs_m σ0)) (hs_n σ0)).2 4 := X4.2.1.2.1.1.2
      refine x_gI ks' yv (x_pI ks' ?_)
      have f1 : k_Fs s M4 (mI M4 s 5 ((s_ks (s_ag σ0 (hs_m σ0)) (hs_n σ0)).2 4 + 1)) := k_Fs_up (by omega)
      refine Ok_s ⟨q1, k_Fs_tr F4 f1, k_X_Fs X4 hd f1 ?_ (yr_V X4.2.2) (fun j _ h4 _ _ _ => hs_sn h4)⟩
      obtain ⟨S1, S2, S3⟩ := X4.2.1.2
      refine ⟨⟨⟨?_, ?_⟩, ?_⟩, fun h' hh' => ?_, fun t' ht' => ?_⟩
      · rw [hs_sn (by omega), mI_ne (by omega)]
        exact S1.1.1
      · rw [y_mI1, hs_se]
      · rw [hs_sn (by omega), mI_ne (by omega)]
        exact S1.2
      · rw [hs_sn (by omega)] at hh'
        rw [hs_sn (by omega), mI_ne (by omega)]
        exact ⟨(S2 h' hh').1, fun tt htt => k_cm ((S2 h' hh').2 tt htt) (mI_ne (by omega)) (mI_ne (by omega)) (hs_sn (by omega)) (hs_sn (by omega))⟩
      · rw [hs_sn (by omega)] at ht'
        rw [hs_sn (by omega), mI_ne (by omega)]
        exact S3 t' ht'
    · have hh' : h < hs_m σ0 := by omega
      rw [if_neg (fun z => by have := c0.mp z; omega)]
      have av : M.2.1 (s + 3) h = s_ag σ0 h (38 + 2 * h) := (X.2.1.2.2.1 h (by omega)).1
      refine x_gR ks r2 (x_gR ks r2 (x_aI k3 h4 (by omega) av ?_))
      refine x_sI k3 h4 (by omega) ?_
      have f1 : k_Fs s M (mI M (s + 3) h (if s_ag σ0 h (38 + 2 * h) + 1 < 99 then s_ag σ0 h (38 + 2 * h) + 1 else 99)) := k_Fs_up (by omega)
      have go : k_S (mI M (s + 3) h (if s_ag σ0 h (38 + 2 * h) + 1 < 99 then s_ag σ0 h (38 + 2 * h) + 1 else 99)) s (s_a1 (s_ag σ0 h) h) → Ok (F_X10_pass_L16 n (some 4) (some e) (some s) (l4 + 1) (mI M (s + 3) h (if s_ag σ0 h (38 + 2 * h) + 1 < 99 then s_ag σ0 h (38 + 2 * h) + 1 else 99))) _ := fun hS => ih (h + 1) ⟨k_Fs_tr F f1, k_X_Fs X hd f1 hS (a1_V X.2.2 (by omega)) (fun j _ _ _ _ h9 => a1_o (h9 h (by omega)).2)⟩ (i_nx h4 (by omega)) (by omega) (by omega)
      refine go ?_
      obtain ⟨S1, S2, S3⟩ := X.2.1.2
      refine ⟨?_, fun h' hh'' => ?_, fun t' ht'' => ?_⟩
      · rw [a1_o (by omega), a1_o (by omega), a1_o (by omega), mI_ne (by omega), mI_ne (by omega), mI_ne (by omega)]
        exact S1
      · rw [a1_o (by omega)] at hh''
        refine ⟨?_, fun tt htt => k_cm ((S2 h' hh'').2 tt htt) (mI_ne (by omega)) (mI_ne (by omega)) (a1_o (by omega)) (a1_o (by omega))⟩
        by_cases eh : h' = h
        · subst eh
          rw [y_mI1]
          unfold s_a1
          rw [hs_se]
        · rw [mI_ne (by omega), a1_o (by omega)]
          exact (S2 h' hh'').1
      · rw [a1_o (by omega)] at ht''
        rw [mI_ne (by omega), a1_o (by omega)]
        exact S3 t' ht''
/-- the YEAR, once all losses are weighed -/
theorem C_pass {M : gM} {s e : Nat} {σ : Nat → Int32} {L : Nat → Nat → Int32} {rl : Option Nat} {W : gM → gM → Prop} (hs5 : 5 < s) (hd : e + 5 < s ∨ s + 4 < e) (Y : k_Y M) (V : s_V σ) (LV : s_LV L) (hy : 0 ≤ (σ 4).toInt)
    (w : Ok (F_X10_weigh (some 4) (some e) (some s) rl M) (fun M2 => k_X M2 s e σ ∧ k_Y M2 ∧ k_Ls M2 σ L ∧ W M M2)) : Ok (F_X10_pass (some 4) (some e) (some s) rl M) (fun r => r.1 = (s_ps σ L).1 ∧ ∃ M2, W M M2 ∧ k_FC M2 s e r.2 (s_ps σ L).2) := by
  have nn := s_Vn V
  delta F_X10_pass F_X10_pass_b0
  refine x_gO Y.1.1.1 ?_
  refine Ok_b w (fun M2 z => ?_)
  obtain ⟨X2, Y2, LS2, W2⟩ := z
  refine x_gC Y2.1.1.1 ?_
  delta F_X10_fadeAll F_X10_fadeAll_b0
  refine Ok_b (C_fade_L2 hs5 hd Y2 V LV LS2 g_fuel 0 (l3 := 0) (M := M2) ⟨k_Fs_rf, X2⟩ rfl (Nat.zero_le _) (n_fu (by omega))) (fun M4 C4 => ?_)
  have en := nm_of (σ := σ) (σ' := s_fo σ L (hs_m σ)) (fun i hi => fo_lo (by omega) (hs_m σ))
  have z := C_age_L16 (M0 := M2) (σ0 := s_fo σ L (hs_m σ)) hd Y2 hs5 C4.2.2.2 (by rw [fo_lo (by decide)]; exact hy) g_fuel 0 (l4 := 0) (M := M4) C4 rfl (Nat.zero_le _) (n_fu (by omega))
  rw [en.1, en.2] at z
  exact Ok_w z (fun r q => ⟨q.1, M2, W2, q.2⟩)
