/-! class and reference, side by side: the same x, the same IMAGES made with the same x -/
def lw_I (M : gM) : Prop := ∀ k, k < 4 → (M.2.2.2 (151 + 6 * k) 1 ≠ none ↔ M.2.1 196 k ≠ 0) ∧ M.2.1 (151 + 6 * k) 3 = M.2.1 195 k
def lw_R (L : Nat) (M : gM) : Prop := ((q_HT 0 M ∧ y_HT M) ∧ y_W M) ∧ ((q_Kd M 2 (11, 0) ∧ q_Im M) ∧ g_k M 0 = (30, L)) ∧ M.2.1 2 14 = M.2.1 175 22 ∧ lw_I M
theorem lw_cs {i : Nat} : ¬ q_cs i ↔ y_cs i := by
  unfold q_cs y_cs
  omega
/-- the reference's part stands while the class works -/
theorem lw_yHT {M M' : gM} (Y : y_HT M) (hl : 197 ≤ M.1.length) (hk : ∀ i, i < M.1.length → g_k M' i = g_k M i) (hr : ∀ i, (¬ q_cs i ∨ i = 0) → M'.2.1 i = M.2.1 i ∧ M'.2.2.1 i = M.2.2.1 i ∧ M'.2.2.2 i = M.2.2.2 i) : y_HT M' := by
  have r : ∀ i, y_cs i → M'.2.1 i = M.2.1 i ∧ M'.2.2.1 i = M.2.2.1 i ∧ M'.2.2.2 i = M.2.2.2 i := fun i hi => hr i (Or.inl (lw_cs.mpr hi))
  refine ⟨⟨fun i hi => ?_, fun k hk2 => ?_⟩, fun i hi k => ?_, ?_⟩
  · rw [hk i (by have := hi.2; omega)]
    exact Y.1.1 i hi
  · rw [(r 175 (by decide)).2.2]
    exact Y.1.2 k hk2
  · rw [(r i hi).1]
    exact Y.2.1 i hi k
  · rw [(r 175 (by decide)).2.1]
    exact Y.2.2
theorem lw_yW {M M' : gM} (W : y_W M) (r : ∀ i, y_cs i → M'.2.1 i = M.2.1 i) : y_W M' := by
  have sn : ∀ t, y_sn M' t = y_sn M t := fun t => funext (fun j => congrFun (r 177 (by decide)) _)
  unfold y_W y_cl at W ⊢
  simp only [sn, r 175 (by decide), r 196 (by decide), r 194 (by decide), r 180 (by decide), r 179 (by decide)]
  exact W
/-- the class's part stands while the reference works -/
theorem lw_qHT {S : Nat} {M M' : gM} (Q : q_HT 0 M) (f : y_Fr S M M') : q_HT 0 M' := by
  obtain ⟨⟨f1, f2⟩, _, f3⟩ := f
  have hk : ∀ i, g_k M' i = g_k M i := fun i => q_k_of f1
  refine ⟨⟨by rw [f1]; exact Q.1.1, by rw [hk]; exact Q.1.2⟩, fun i hi hx k => ?_⟩
  have h9 := Q.2 i hi hx k
  rw [hk, f2, (f3 i (fun z => lw_cs.mpr z hi)).1]
  exact ⟨q_okR_mo q_tR_kd (fun j q K _ => ⟨K.1, by rw [hk]; exact K.2⟩) h9.1, h9.2⟩
theorem lw_im {M : gM} (Q : q_HT 0 M) (K : q_Kd M 2 (11, 0)) (I : q_Im M) : ∀ k, k < 4 → q_Kd M (151 + 6 * k) (3, 0) := by
  intro k hk
  have K1 : q_Kd M 121 (26, 4) := by
    have h9 := (Q.2 2 K.1 (by decide) 8).1
    rw [K.2, show q_tR (11, 0) 8 = (1, 26, 4) from rfl, I.1] at h9
    rcases h9 with (h9 | ⟨h9, j, e, Kj⟩) | (⟨h9, h2⟩ | ⟨h9, h2⟩)
    · exact absurd h9 (by simp)
    · cases e
      exact Kj
    · exact absurd h9 (by simp)
    · exact absurd h9 (by simp)
  have h9 := (Q.2 121 K1.1 (by decide) k).1
  rw [K1.2, show q_tR (26, 4) k = (1, 3, 0) from if_pos hk, I.2 k hk] at h9
  rcases h9 with (h9 | ⟨h9, j, e, Kj⟩) | (⟨h9, h2⟩ | ⟨h9, h2⟩)
  · exact absurd h9 (by simp)
  · cases e
    exact Kj
  · exact absurd h9 (by simp)
  · exact absurd h9 (by simp)
theorem lw_k121 {M : gM} (Q : q_HT 0 M) (K : q_Kd M 2 (11, 0)) (I : q_Im M) : q_Kd M 121 (26, 4) := by
  have h9 := (Q.2 2 K.1 (by decide) 8).1
  rw [K.2, show q_tR (11, 0) 8 = (1, 26, 4) from rfl, I.1] at h9
  rcases h9 with (h9 | ⟨h9, j, e, Kj⟩) | (⟨h9, h2⟩ | ⟨h9, h2⟩)
  · exact absurd h9 (by simp)
  · cases e
    exact Kj
  · exact absurd h9 (by simp)
  · exact absurd h9 (by simp)
/-- a call of the class that leaves x and the IMAGES -/
theorem lw_cls {b : Nat → Bool} {L : Nat} {M M' : gM} (R : lw_R L M) (H : q_HT 0 M') (f : q_Fr b M M') (x : M'.2.1 2 14 = M.2.1 2 14) : lw_R L M' := by
  obtain ⟨⟨⟨Q, Y⟩, W⟩, ⟨⟨K, I⟩, k0⟩, ex, im⟩ := R
  have hl := Q.1.1
  have r : ∀ i, y_cs i → M'.2.1 i = M.2.1 i := fun i hi => (f.2.1 i (Or.inl (lw_cs.mpr hi))).1
  have K121 := lw_k121 Q K I
  refine ⟨⟨⟨H, lw_yHT Y hl f.1.2 f.2.1⟩, lw_yW W r⟩, ⟨⟨q_mo K (by decide) f, ?_, fun k hk => ?_⟩, ?_⟩, ?_, fun k hk => ?_⟩
  · rw [f.2.2.2 2 (by omega) 8 (by rw [K.2]; rfl)]
    exact I.1
  · rw [f.2.2.2 121 (by omega) k (by rw [K121.2]; rfl)]
    exact I.2 k hk
  · rw [f.1.2 0 (by omega)]
    exact k0
  · rw [x, ex, r 175 (by decide)]
  · have Ka := lw_im Q K I k hk
    rw [f.2.2.2 (151 + 6 * k) (by omega) 1 (by rw [Ka.2]; rfl), f.2.2.1 (151 + 6 * k) (by omega) 3 (by rw [Ka.2]; rfl), r 196 (by decide), r 195 (by decide)]
    exact im k hk
/-- a call of the reference that leaves x and the images -/
theorem lw_ref {S L : Nat} {M M' : gM} (R : lw_R L M) (H : y_HT M') (f : y_Fr S M M') (W' : y_W M') (hS : Nat.land S (2 ^ 22 + 2 ^ 60 + 2 ^ 61) = 0) : lw_R L M' := by
  obtain ⟨⟨⟨Q, Y⟩, W⟩, ⟨⟨K, I⟩, k0⟩, ex, im⟩ := R
  have e22 := y_fk (i := 175) (k := 22) f (y_dis hS (by decide))
  have a195 := y_fa (i := 195) f (by decide) (y_dis hS (by decide))
  have a196 := y_fa (i := 196) f (by decide) (y_dis hS (by decide))
  have hk : ∀ i, g_k M' i = g_k M i := fun i => q_k_of f.1.1
  have h2 : ∀ i, ¬ y_cs i → M'.2.1 i = M.2.1 i := fun i hi => (f.2.2 i hi).1
  refine ⟨⟨⟨lw_qHT Q f, H⟩, W'⟩, ⟨⟨⟨K.1, by rw [hk]; exact K.2⟩, by unfold q_Im; rw [f.1.2]; exact I⟩, by rw [hk]; exact k0⟩, ?_, fun k hk2 => ?_⟩
  · rw [h2 2 (by decide), e22]
    exact ex
  · rw [f.1.2, a195, a196, h2 (151 + 6 * k) (by show ¬ (175 ≤ 151 + 6 * k ∧ 151 + 6 * k ≤ 196); omega)]
    exact im k hk2
theorem lw_refW {S L : Nat} {M M' : gM} (R : lw_R L M) (H : y_HT M') (f : y_Fr S M M') (hW : Nat.land S y_wb = 0) (hS : Nat.land S (2 ^ 22 + 2 ^ 60 + 2 ^ 61) = 0) : lw_R L M' := lw_ref R H f (y_Wf f hW R.1.2) hS
/-! reads of the script -/
theorem lw_xI {L : Nat} {M : gM} {j : Int32} {β : Type} {f : Int32 → Option β} {Q : β → Prop} (R : lw_R L M) (h0 : 0 ≤ j.toInt) (h1 : j.toInt < (L : Int)) (h : Ok (f (M.2.1 0 j.toNatClampNeg)) Q) : Ok ((xI M (some 0) j).bind f) Q := by
  have k0 := R.2.1.2
  unfold xI
  rw [Option.bind_some, if_pos ⟨by rw [k0], by rw [k0]; exact gin_of h0 h1⟩, Option.bind_some]
  exact h
theorem lw_xN {L : Nat} {M : gM} {β : Type} {f : Int32 → Option β} {Q : β → Prop} (R : lw_R L M) (h : Ok (f (Int32.ofNat L)) Q) : Ok ((xN M (some 0)).bind f) Q := by
  have k0 := R.2.1.2
  unfold xN
  rw [Option.bind_some, if_pos (by rw [k0]), k0, Option.bind_some]
  exact h
theorem lw_gO11 {L : Nat} {M : gM} {β : Type} {f : Nat → Option β} {Q : β → Prop} (R : lw_R L M) (h : Ok (f 2) Q) : Ok ((gO 11 M (some 2)).bind f) Q := c_gO R.2.1.1.1 h
theorem lw_gO12 {L : Nat} {M : gM} {β : Type} {f : Nat → Option β} {Q : β → Prop} (R : lw_R L M) (h : Ok (f 175) Q) : Ok ((gO 12 M (some 175)).bind f) Q := y_gO R.1.1.2 h
/-- the script stands -/
theorem lw_s_cls {b : Nat → Bool} {M M' : gM} (f : q_Fr b M M') : M'.2.1 0 = M.2.1 0 := (f.2.1 0 (Or.inr rfl)).1
theorem lw_s_ref {S : Nat} {M M' : gM} (f : y_Fr S M M') : M'.2.1 0 = M.2.1 0 := (f.2.2 0 (by decide)).1
/-! calls -/
theorem lw_cPI {b : Nat → Bool} {L : Nat} {lo hi : Int} {M : gM} {o : Option (Int32 × gM)} {β : Type} {f : Int32 × gM → Option β} {Q : β → Prop} (R : lw_R L M) (hb : b 14 = true) (h : Ok o (q_PI b M lo hi)) (k : ∀ v M', lw_R L M' → M'.2.1 0 = M.2.1 0 → Ok (f (v, M')) Q) : Ok (o.bind f) Q := by
  refine Ok_b h (fun r z => ?_)
  obtain ⟨v, M'⟩ := r
  refine k v M' (lw_cls R z.2.1 z.2.2 ?_) (lw_s_cls z.2.2)
  have K := R.2.1.1.1
  refine z.2.2.2.2.1 2 (by have := R.1.1.1.1.1; omega) 14 ?_
  rw [K.2]
  unfold q_pI
  simp [hb]
theorem lw_cPX {L : Nat} {lo hi : Int} {M : gM} {o : Option (Int32 × gM)} {β : Type} {f : Int32 × gM → Option β} {Q : β → Prop} (R : lw_R L M) (h : Ok o (q_PX M lo hi 2 (M.2.1 2 14))) (k : ∀ v M', lw_R L M' → M'.2.1 0 = M.2.1 0 → Ok (f (v, M')) Q) : Ok (o.bind f) Q := by
  refine Ok_b h (fun r z => ?_)
  obtain ⟨v, M'⟩ := r
  exact k v M' (lw_cls R z.1.2.1 z.1.2.2 z.2) (lw_s_cls z.1.2.2)
theorem lw_pi {lo hi : Int} {o : Option Int32} {β : Type} {f : Int32 → Option β} {Q : β → Prop} (h : Ok o (q_pi lo hi)) (k : ∀ v, Ok (f v) Q) : Ok (o.bind f) Q := Ok_b h (fun v _ => k v)
theorem lw_rPI {S L : Nat} {lo hi : Int} {M : gM} {o : Option (Int32 × gM)} {β : Type} {f : Int32 × gM → Option β} {Q : β → Prop} (R : lw_R L M) (hW : Nat.land S y_wb = 0) (hS : Nat.land S (2 ^ 22 + 2 ^ 60 + 2 ^ 61) = 0) (h : Ok o (y_PI S M lo hi)) (k : ∀ v M', lw_R L M' → M'.2.1 0 = M.2.1 0 → Ok (f (v, M')) Q) : Ok (o.bind f) Q := by
  refine Ok_b h (fun r z => ?_)
  obtain ⟨v, M'⟩ := r
  exact k v M' (lw_refW R z.2.1 z.2.2 hW hS) (lw_s_ref z.2.2)
theorem lw_rHF {S L : Nat} {M : gM} {o : Option (Int32 × gM)} {β : Type} {f : Int32 × gM → Option β} {Q : β → Prop} (R : lw_R L M) (hW : Nat.land S y_wb = 0) (hS : Nat.land S (2 ^ 22 + 2 ^ 60 + 2 ^ 61) = 0) (h : Ok o (fun r => y_HT r.2 ∧ y_Fr S M r.2)) (k : ∀ v M', lw_R L M' → M'.2.1 0 = M.2.1 0 → Ok (f (v, M')) Q) : Ok (o.bind f) Q := by
  refine Ok_b h (fun r z => ?_)
  obtain ⟨v, M'⟩ := r
  exact k v M' (lw_refW R z.1 z.2 hW hS) (lw_s_ref z.2)
theorem lw_rW {S L : Nat} {M : gM} {o : Option (Int32 × gM)} {β : Type} {f : Int32 × gM → Option β} {Q : β → Prop} (R : lw_R L M) (hS : Nat.land S (2 ^ 22 + 2 ^ 60 + 2 ^ 61) = 0) (h : Ok o (fun r => (y_HT r.2 ∧ y_Fr S M r.2) ∧ y_W r.2)) (k : ∀ v M', lw_R L M' → M'.2.1 0 = M.2.1 0 → Ok (f (v, M')) Q) : Ok (o.bind f) Q := by
  refine Ok_b h (fun r z => ?_)
  obtain ⟨v, M'⟩ := r
  exact k v M' (lw_ref R z.1.1 z.1.2 z.2 hS) (lw_s_ref z.1.2)
theorem lw_rWI {S L : Nat} {lo hi : Int} {M : gM} {o : Option (Int32 × gM)} {β : Type} {f : Int32 × gM → Option β} {Q : β → Prop} (R : lw_R L M) (hS : Nat.land S (2 ^ 22 + 2 ^ 60 + 2 ^ 61) = 0) (h : Ok o (fun r => y_PI S M lo hi r ∧ y_W r.2)) (k : ∀ v M', lw_R L M' → M'.2.1 0 = M.2.1 0 → Ok (f (v, M')) Q) : Ok (o.bind f) Q := by
  refine Ok_b h (fun r z => ?_)
  obtain ⟨v, M'⟩ := r
  exact k v M' (lw_ref R z.1.2.1 z.1.2.2 z.2 hS) (lw_s_ref z.1.2.2)
/-! seed, image and back, of both -/
theorem lw_seed {L : Nat} {l : Int32} {M : gM} (R : lw_R L M) : ∃ v M1 M2, F_X11_seed (some 2) l M = some (v, M1) ∧ (g_k M1 0 = (30, L) ∧ M1.2.1 0 = M.2.1 0) ∧ g_k M1 175 = (12, 0) ∧ F_X12_seed (some 175) l M1 = some (v, M2) ∧ lw_R L M2 ∧ M2.2.1 0 = M.2.1 0 := by
  have R0 := R
  obtain ⟨⟨⟨Q, Y⟩, W⟩, ⟨⟨K, I⟩, k0⟩, ex, im⟩ := R
  have z0 : (0 : Int32).toInt = 0 := rfl
  rw [S_X11_seed K]
  by_cases h : 0 ≤ l
  · have h' := i_le h
    rw [if_pos h]
    obtain ⟨H1, f1⟩ := q_seedHT (l1 := l) Q K (by omega)
    have e1 : (mI M 2 14 l).2.1 2 14 = l := y_mI1
    have eo : ∀ i k, i ≠ 2 ∨ k ≠ 14 → (mI M 2 14 l).2.1 i k = M.2.1 i k := fun i k hh => mI_ne hh
    have Y1 : y_HT (mI M 2 14 l) := lw_yHT Y Q.1.1 f1.1.2 f1.2.1
    obtain ⟨r, er, ⟨⟨H2, f2⟩, v2, x2⟩⟩ := S_X12_seed (l1 := l) Y1
    obtain ⟨v, M2⟩ := r
    rw [if_pos h] at v2 x2
    dsimp only at v2 x2 H2 f2
    refine ⟨_, _, M2, rfl, ⟨k0, (f1.2.1 0 (Or.inr rfl)).1⟩, y_k175 Y1, ?_, ?_, (lw_s_ref f2).trans (f1.2.1 0 (Or.inr rfl)).1⟩
    · rw [er, v2, eo 175 22 (Or.inl (by decide)), ex]
    · have W1 : y_W (mI M 2 14 l) := lw_yW W (fun i hi => (f1.2.1 i (Or.inl (lw_cs.mpr hi))).1)
      have hk : ∀ i, g_k M2 i = g_k M i := fun i => (q_k_of f2.1.1).trans rfl
      have h2 : ∀ i, ¬ y_cs i → M2.2.1 i = (mI M 2 14 l).2.1 i := fun i hi => (f2.2.2 i hi).1
      have rr : M2.2.2.2 = M.2.2.2 := f2.1.2.trans rfl
      refine ⟨⟨⟨lw_qHT H1 f2, H2⟩, y_Wf f2 (by decide) W1⟩, ⟨⟨⟨K.1, by rw [hk]; exact K.2⟩, by unfold q_Im; rw [rr]; exact I⟩, by rw [hk]; exact k0⟩, ?_, fun k hk2 => ?_⟩
      · rw [h2 2 (by decide), e1, x2]
      · rw [rr, h2 (151 + 6 * k) (by show ¬ (175 ≤ 151 + 6 * k ∧ 151 + 6 * k ≤ 196); omega), eo _ _ (Or.inl (by omega)), y_fa (i := 196) f2 (by decide) (by decide), y_fa (i := 195) f2 (by decide) (by decide), eo 196 _ (Or.inl (by decide)), eo 195 _ (Or.inl (by decide))]
        exact im k hk2
  · rw [if_neg h]
    obtain ⟨r, er, ⟨⟨H2, f2⟩, v2, x2⟩⟩ := S_X12_seed (l1 := l) Y
    obtain ⟨v, M2⟩ := r
    rw [if_neg h] at v2 x2
    dsimp only at v2 x2 H2 f2
    refine ⟨_, _, M2, rfl, ⟨k0, rfl⟩, y_k175 Y, by rw [er, v2], ?_, lw_s_ref f2⟩
    have hk : ∀ i, g_k M2 i = g_k M i := fun i => q_k_of f2.1.1
    have h2 : ∀ i, ¬ y_cs i → M2.2.1 i = M.2.1 i := fun i hi => (f2.2.2 i hi).1
    refine ⟨⟨⟨lw_qHT Q f2, H2⟩, y_Wf f2 (by decide) W⟩, ⟨⟨⟨K.1, by rw [hk]; exact K.2⟩, by unfold q_Im; rw [f2.1.2]; exact I⟩, by rw [hk]; exact k0⟩, ?_, fun k hk2 => ?_⟩
    · rw [h2 2 (by decide), ex, x2]
    · rw [f2.1.2, h2 (151 + 6 * k) (by show ¬ (175 ≤ 151 + 6 * k ∧ 151 + 6 * k ≤ 196); omega), y_fa (i := 196) f2 (by decide) (by decide), y_fa (i := 195) f2 (by decide) (by decide)]
      exact im k hk2
theorem lw_img_of {S L : Nat} {M M1 M2 : gM} (R : lw_R L M) (H1 : q_HT 0 M1) (Y2 : y_HT M2) (W2 : y_W M2) (f1 : M.1.length ≤ M1.1.length ∧ ∀ i, i < M.1.length → g_k M1 i = g_k M i) (I1 : q_Im M1) (f2 : y_Fr S M1 M2) (ex : M1.2.1 2 14 = M2.2.1 175 22) (im : ∀ k, k < 4 → (M1.2.2.2 (151 + 6 * k) 1 ≠ none ↔ M2.2.1 196 k ≠ 0) ∧ M1.2.1 (151 + 6 * k) 3 = M2.2.1 195 k) : lw_R L M2 := by
  obtain ⟨⟨⟨Q, Y⟩, W⟩, ⟨⟨K, I⟩, k0⟩, _, _⟩ := R
  have hl := Q.1.1
  have hk : ∀ i, g_k M2 i = g_k M1 i := fun i => q_k_of f2.1.1
  have h2 : ∀ i, ¬ y_cs i → M2.2.1 i = M1.2.1 i := fun i hi => (f2.2.2 i hi).1
  refine ⟨⟨⟨lw_qHT H1 f2, Y2⟩, W2⟩, ⟨⟨⟨K.1, by rw [hk, f1.2 2 (by omega)]; exact K.2⟩, by unfold q_Im; rw [f2.1.2]; exact I1⟩, by rw [hk, f1.2 0 (by omega)]; exact k0⟩, ?_, fun k hk2 => ?_⟩
  · rw [h2 2 (by decide)]
    exact ex
  · rw [f2.1.2, h2 (151 + 6 * k) (by show ¬ (175 ≤ 151 + 6 * k ∧ 151 + 6 * k ≤ 196); omega)]
    exact im k hk2
theorem lw_image {L : Nat} {l : Int32} {M : gM} (R : lw_R L M) : ∃ v1 M1 v2 M2, F_X11_image (some 2) l M = some (v1, M1) ∧ (g_k M1 0 = (30, L) ∧ M1.2.1 0 = M.2.1 0) ∧ g_k M1 175 = (12, 0) ∧ F_X12_image (some 175) l M1 = some (v2, M2) ∧ lw_R L M2 ∧ M2.2.1 0 = M.2.1 0 := by
  have R0 := R
  obtain ⟨⟨⟨Q, Y⟩, W⟩, ⟨⟨K, I⟩, k0⟩, ex, im⟩ := R
  have hl := Q.1.1
  obtain ⟨⟨v1, M1⟩, e1, z1, z2⟩ := S_X11_image (l1 := l) Q K I
  dsimp only at z1 z2
  by_cases c : 0 ≤ l.toInt ∧ l.toInt ≤ 3
  · obtain ⟨H1, f1, ⟨e, he⟩, hx⟩ := z2 c
    have hc := i_clamp (x := l) c.1
    obtain ⟨n, hn⟩ : ∃ n, n = l.toNatClampNeg := ⟨_, rfl⟩
    rw [← hn] at f1 he hx hc
    have hn4 : n < 4 := by omega
    have r : ∀ i, y_cs i → M1.2.1 i = M.2.1 i := fun i hi => (f1.2.1 i (Or.inl (lw_cs.mpr hi))).1
    have Y1 : y_HT M1 := lw_yHT Y hl f1.1.2 f1.2.1
    have W1 : y_W M1 := lw_yW W r
    have K121 := lw_k121 Q K I
    have I1 : q_Im M1 := by
      refine ⟨?_, fun k hk => ?_⟩
      · rw [f1.2.2.2 2 (by omega) (by omega) 8 (by rw [K.2]; rfl)]
        exact I.1
      · rw [f1.2.2.2 121 (by omega) (by omega) k (by rw [K121.2]; rfl)]
        exact I.2 k hk
    have x1 : M1.2.1 2 14 = M.2.1 2 14 := f1.2.2.1 2 (by omega) (by omega) 14 (by rw [K.2]; rfl)
    obtain ⟨⟨v2, M2⟩, e2, ⟨Y2, f2⟩, W2, _, z3⟩ := S_X12_image (l1 := l) Y1 W1
    obtain ⟨⟨a1, a2⟩, a3⟩ := z3 c
    rw [← hn] at a1 a2 a3
    dsimp only at Y2 f2 W2 a1 a2 a3
    refine ⟨v1, M1, v2, M2, e1, ⟨by rw [f1.1.2 0 (by omega)]; exact k0, (f1.2.1 0 (Or.inr rfl)).1⟩, y_k175 Y1, e2, ?_, (lw_s_ref f2).trans (f1.2.1 0 (Or.inr rfl)).1⟩
    refine lw_img_of R0 H1 Y2 W2 f1.1 I1 f2 ?_ (fun k hk => ?_)
    · rw [x1, ex, y_fk (i := 175) (k := 22) f2 (by decide), r 175 (by decide)]
    · by_cases ek : k = n
      · subst ek
        rw [he, a1, hx, a2, r 175 (by decide), ex]
        exact ⟨⟨fun _ => by decide, fun _ => by simp⟩, rfl⟩
      · obtain ⟨b1, b2⟩ := a3 k ek
        have Ka := lw_im Q K I k hk
        rw [b1, b2, r 196 (by decide), r 195 (by decide), f1.2.2.2 (151 + 6 * k) (by omega) (by omega) 1 (by rw [Ka.2]; rfl), f1.2.2.1 (151 + 6 * k) (by omega) (by omega) 3 (by rw [Ka.2]; rfl)]
        exact im k hk
  · have h1 := z1 c
    subst h1
    obtain ⟨⟨v2, M2⟩, e2, _, _, z3, _⟩ := S_X12_image (l1 := l) Y W
    have h2 := z3 c
    dsimp only at h2
    subst h2
    exact ⟨v1, _, v2, _, e1, ⟨k0, rfl⟩, y_k175 Y, e2, R0, rfl⟩
theorem lw_back {L : Nat} {l : Int32} {M : gM} (R : lw_R L M) : ∃ v1 M1 v2 M2, F_X11_back (some 2) l M = some (v1, M1) ∧ (g_k M1 0 = (30, L) ∧ M1.2.1 0 = M.2.1 0) ∧ g_k M1 175 = (12, 0) ∧ F_X12_back (some 175) l M1 = some (v2, M2) ∧ lw_R L M2 ∧ M2.2.1 0 = M.2.1 0 := by
  have R0 := R
  obtain ⟨⟨⟨Q, Y⟩, W⟩, ⟨⟨K, I⟩, k0⟩, ex, im⟩ := R
  have hl := Q.1.1
  obtain ⟨⟨v1, M1⟩, e1, z1, z2⟩ := S_X11_back (l1 := l) Q K I
  dsimp only at z1 z2
  obtain ⟨n, hn⟩ : ∃ n, n = l.toNatClampNeg := ⟨_, rfl⟩
  rw [← hn] at z1 z2
  by_cases c : (0 ≤ l.toInt ∧ l.toInt ≤ 3) ∧ M.2.2.2 (151 + 6 * n) 1 ≠ none
  · obtain ⟨H1, f1, hx⟩ := z2 c
    have hc := i_clamp (x := l) c.1.1
    rw [← hn] at hc
    have hn4 : n < 4 := by omega
    have r : ∀ i, y_cs i → M1.2.1 i = M.2.1 i := fun i hi => (f1.2.1 i (Or.inl (lw_cs.mpr hi))).1
    have Y1 : y_HT M1 := lw_yHT Y hl f1.1.2 f1.2.1
    have W1 : y_W M1 := lw_yW W r
    have K121 := lw_k121 Q K I
    have I1 : q_Im M1 := by
      refine ⟨?_, fun k hk => ?_⟩
      · rw [f1.2.2.2 2 (by omega) 8 (by rw [K.2]; rfl)]
        exact I.1
      · rw [f1.2.2.2 121 (by omega) k (by rw [K121.2]; rfl)]
        exact I.2 k hk
    have cn : (0 ≤ l.toInt ∧ l.toInt ≤ 3) ∧ M1.2.1 196 l.toNatClampNeg ≠ 0 := by
      refine ⟨c.1, ?_⟩
      rw [r 196 (by decide), ← hn]
      exact (im n hn4).1.mp c.2
    obtain ⟨⟨v2, M2⟩, e2, ⟨Y2, f2⟩, W2, _, z3⟩ := S_X12_back (l1 := l) Y1 W1
    have a1 := z3 cn
    rw [← hn] at a1
    dsimp only at Y2 f2 W2 a1
    refine ⟨v1, M1, v2, M2, e1, ⟨by rw [f1.1.2 0 (by omega)]; exact k0, (f1.2.1 0 (Or.inr rfl)).1⟩, y_k175 Y1, e2, ?_, (lw_s_ref f2).trans (f1.2.1 0 (Or.inr rfl)).1⟩
    refine lw_img_of R0 H1 Y2 W2 f1.1 I1 f2 ?_ (fun k hk => ?_)
    · rw [hx, a1, r 195 (by decide)]
      exact (im n hn4).2
    · have Ka := lw_im Q K I k hk
      rw [y_fa (i := 196) f2 (by decide) (by decide), y_fa (i := 195) f2 (by decide) (by decide), r 196 (by decide), r 195 (by decide), f1.2.2.2 (151 + 6 * k) (by omega) 1 (by rw [Ka.2]; rfl), f1.2.2.1 (151 + 6 * k) (by omega) 3 (by rw [Ka.2]; rfl)]
      exact im k hk
  · have h1 := z1 c
    subst h1
    have cn : ¬ ((0 ≤ l.toInt ∧ l.toInt ≤ 3) ∧ M1.2.1 196 l.toNatClampNeg ≠ 0) := by
      rintro ⟨c1, c2⟩
      have hc := i_clamp (x := l) c1.1
      rw [← hn] at c2 hc
      exact c ⟨c1, (im n (by omega)).1.mpr c2⟩
    obtain ⟨⟨v2, M2⟩, e2, _, _, z3, _⟩ := S_X12_back (l1 := l) Y W
    have h2 := z3 cn
    dsimp only at h2
    subst h2
    exact ⟨v1, _, v2, _, e1, ⟨k0, rfl⟩, y_k175 Y, e2, R0, rfl⟩
