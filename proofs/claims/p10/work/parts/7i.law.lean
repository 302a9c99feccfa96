/-! class and reference, side by side: the same tape, as many rules -/
def lw_F (M : gM) : Prop := z_L M ∧ M.2.2.2 2 0 = some 131 ∧ M.2.2.2 2 2 = some 148
def lw_B (L : Nat) (M : gM) : Prop := ((q_HT 0 M ∧ y_HT M) ∧ y_W M) ∧ ((q_Kd M 2 (11, 0) ∧ q_Im M) ∧ g_k M 0 = (30, L)) ∧ lw_F M
def lw_tP (M : gM) : Prop := (M.2.1 132 = M.2.1 176 ∧ M.2.1 131 6 = M.2.1 175 1) ∧ M.2.1 2 12 = M.2.1 175 2 ∧ ∀ q, -128 ≤ (M.2.1 176 q).toInt ∧ (M.2.1 176 q).toInt ≤ 127
def lw_R (L : Nat) (M : gM) : Prop := lw_B L M ∧ lw_tP M
theorem lw_cs {i : Nat} : ¬ q_cs i ↔ y_cs i := by
  unfold q_cs y_cs
  omega
/-- the reference's part stands while the class works -/
theorem lw_yHT {M M' : gM} (Y : y_HT M) (hl : 197 ≤ M.1.length) (hk : ∀ i, i < M.1.length → g_k M' i = g_k M i) (hr : ∀ i, (¬ q_cs i ∨ i = 0) → M'.2.1 i = M.2.1 i ∧ M'.2.2.1 i = M.2.2.1 i ∧ M'.2.2.2 i = M.2.2.2 i) : y_HT M' := by
  have r : ∀ i, y_cs i → M'.2.1 i = M.2.1 i ∧ M'.2.2.1 i = M.2.2.1 i ∧ M'.2.2.2 i = M.2.2.2 i := fun i hi => hr i (Or.inl (lw_cs.mpr hi))
  refine ⟨⟨fun i hi => ?_, fun k hk2 => ?_⟩, fun i hi k => ?_, ?_⟩
  · rw [hk i (by have := hi.2; omega)]
    exact Y.1.1 i hi
  · rw [(r 175 (by decide)).2.2]
    exact Y.1.2 k hk2
  · rw [(r i hi).1]
    exact Y.2.1 i hi k
  · rw [(r 175 (by decide)).2.1]
    exact Y.2.2
theorem lw_yW {M M' : gM} (W : y_W M) (r : ∀ i, y_cs i → M'.2.1 i = M.2.1 i) : y_W M' := by
  have sn : ∀ t, y_sn M' t = y_sn M t := fun t => funext (fun j => congrFun (r 177 (by decide)) _)
  unfold y_W y_cl at W ⊢
  simp only [sn, r 175 (by decide), r 196 (by decide), r 194 (by decide), r 180 (by decide), r 179 (by decide)]
  exact W
/-- the class's part stands while the reference works -/
theorem lw_qHT {S : Nat} {M M' : gM} (Q : q_HT 0 M) (f : y_Fr S M M') : q_HT 0 M' := by
  obtain ⟨⟨f1, f2⟩, _, f3⟩ := f
  have hk : ∀ i, g_k M' i = g_k M i := fun i => q_k_of f1
  refine ⟨⟨by rw [f1]; exact Q.1.1, by rw [hk]; exact Q.1.2⟩, fun i hi hx k => ?_⟩
  have h9 := Q.2 i hi hx k
  rw [hk, f2, (f3 i (fun z => lw_cs.mpr z hi)).1]
  exact ⟨q_okR_mo q_tR_kd (fun j q K _ => ⟨K.1, by rw [hk]; exact K.2⟩) h9.1, h9.2⟩
theorem lw_k121 {M : gM} (Q : q_HT 0 M) (K : q_Kd M 2 (11, 0)) (I : q_Im M) : q_Kd M 121 (26, 4) := by
  have h9 := (Q.2 2 K.1 (by decide) 8).1
  rw [K.2, show q_tR (11, 0) 8 = (1, 26, 4) from rfl, I.1] at h9
  rcases h9 with (h9 | ⟨h9, j, e, Kj⟩) | (⟨h9, h2⟩ | ⟨h9, h2⟩)
  · exact absurd h9 (by simp)
  · cases e
    exact Kj
  · exact absurd h9 (by simp)
  · exact absurd h9 (by simp)
/-- what stands for ever, behind a call of the class -/
theorem lw_Bc {b : Nat → Bool} {L a : Nat} {M M' : gM} (R : lw_B L M) (H : q_HT 0 M') (f : q_Fx b a M M') (ha : 151 ≤ a) : lw_B L M' := by
  obtain ⟨⟨⟨Q, Y⟩, W⟩, ⟨⟨K, I⟩, k0⟩, ⟨⟨⟨⟨⟨l1, l2⟩, ⟨l3, l4⟩, l5⟩, ⟨l6, l7⟩, l8⟩, ⟨⟨s1, s2⟩, s3, s4⟩, ⟨s5, s6⟩, s7⟩, r0, r2⟩⟩ := R
  have hl := Q.1.1
  have r : ∀ i, y_cs i → M'.2.1 i = M.2.1 i := fun i hi => (f.2.1 i (Or.inl (lw_cs.mpr hi))).1
  have K121 := lw_k121 Q K I
  have hk := f.1.2
  have rf : ∀ i k, i < 151 → q_pR (g_k M i) k = true → M'.2.2.2 i k = M.2.2.2 i k := fun i k hi h => f.2.2.2 i (by omega) (by omega) k h
  refine ⟨⟨⟨H, lw_yHT Y hl hk f.2.1⟩, lw_yW W r⟩, ⟨⟨q_moX K (by decide) f, ?_, fun k hk2 => ?_⟩, ?_⟩, ⟨⟨⟨⟨?_, ?_⟩, ⟨?_, ?_⟩, ?_⟩, ⟨?_, ?_⟩, ?_⟩, ⟨⟨?_, ?_⟩, ?_, ?_⟩, ⟨?_, ?_⟩, ?_⟩, ?_, ?_⟩
  · rw [rf 2 8 (by decide) (by rw [K.2]; rfl)]
    exact I.1
  · rw [rf 121 k (by decide) (by rw [K121.2]; rfl)]
    exact I.2 k hk2
  · rw [hk 0 (by omega)]
    exact k0
  · rw [hk 131 (by omega)]; exact l1
  · rw [hk 132 (by omega)]; exact l2
  · rw [hk 133 (by omega)]; exact l3
  · rw [hk 134 (by omega)]; exact l4
  · rw [hk 135 (by omega)]; exact l5
  · rw [hk 148 (by omega)]; exact l6
  · rw [hk 149 (by omega)]; exact l7
  · rw [hk 150 (by omega)]; exact l8
  · rw [rf 131 0 (by decide) (by rw [l1]; rfl)]; exact s1
  · rw [rf 131 1 (by decide) (by rw [l1]; rfl)]; exact s2
  · rw [rf 131 2 (by decide) (by rw [l1]; rfl)]; exact s3
  · rw [rf 131 3 (by decide) (by rw [l1]; rfl)]; exact s4
  · rw [rf 148 0 (by decide) (by rw [l6]; rfl)]; exact s5
  · rw [rf 148 1 (by decide) (by rw [l6]; rfl)]; exact s6
  · rw [rf 148 2 (by decide) (by rw [l6]; rfl)]; exact s7
  · rw [rf 2 0 (by decide) (by rw [K.2]; rfl)]; exact r0
  · rw [rf 2 2 (by decide) (by rw [K.2]; rfl)]; exact r2
/-- and of the reference -/
theorem lw_Br {S L : Nat} {M M' : gM} (R : lw_B L M) (H : y_HT M') (f : y_Fr S M M') (W' : y_W M') : lw_B L M' := by
  obtain ⟨⟨⟨Q, Y⟩, W⟩, ⟨⟨K, I⟩, k0⟩, Z, r0, r2⟩ := R
  have hk : ∀ i, g_k M' i = g_k M i := fun i => q_k_of f.1.1
  have rr : M'.2.2.2 = M.2.2.2 := f.1.2
  refine ⟨⟨⟨lw_qHT Q f, H⟩, W'⟩, ⟨⟨⟨K.1, by rw [hk]; exact K.2⟩, by unfold q_Im; rw [rr]; exact I⟩, by rw [hk]; exact k0⟩, ?_, by rw [rr]; exact r0, by rw [rr]; exact r2⟩
  unfold z_L at Z ⊢
  simp only [hk, rr]
  exact Z
/-- what of the tape and the rules stands behind a call of the class -/
theorem lw_tc {b : Nat → Bool} {L a : Nat} {M M' : gM} (R : lw_B L M) (P : lw_tP M) (f : q_Fx b a M M') (ha : 151 ≤ a) (h1 : b 12 = true) (h2 : b 100 = true) (h3 : b 101 = true) : lw_tP M' := by
  obtain ⟨⟨⟨Q, Y⟩, W⟩, ⟨⟨K, I⟩, k0⟩, Z, r0, r2⟩ := R
  have hl := Q.1.1
  have r : ∀ i, y_cs i → M'.2.1 i = M.2.1 i := fun i hi => (f.2.1 i (Or.inl (lw_cs.mpr hi))).1
  have k1 : g_k M 131 = (9, 0) := Z.1.1.1.1
  have k2 : g_k M 132 = (22, 400) := Z.1.1.1.2
  have e132 : M'.2.1 132 = M.2.1 132 := funext (fun k => f.2.2.1 132 (by omega) (by omega) k (by rw [k2]; unfold q_pI; simp [h2]))
  have e6 : M'.2.1 131 6 = M.2.1 131 6 := f.2.2.1 131 (by omega) (by omega) 6 (by rw [k1]; unfold q_pI; simp [h3])
  have e12 : M'.2.1 2 12 = M.2.1 2 12 := f.2.2.1 2 (by omega) (by omega) 12 (by rw [K.2]; unfold q_pI; simp [h1])
  exact ⟨⟨by rw [e132, r 176 (by decide)]; exact P.1.1, by rw [e6, r 175 (by decide)]; exact P.1.2⟩, by rw [e12, r 175 (by decide)]; exact P.2.1, by rw [r 176 (by decide)]; exact P.2.2⟩
theorem lw_tr {S : Nat} {M M' : gM} (P : lw_tP M) (f : y_Fr S M M') (hS : Nat.land S (2 ^ 1 + 2 ^ 2 + 2 ^ 41) = 0) : lw_tP M' := by
  have h2 : ∀ i, ¬ y_cs i → M'.2.1 i = M.2.1 i := fun i hi => (f.2.2 i hi).1
  have e1 := y_fk (i := 175) (k := 1) f (y_dis hS (by decide))
  have e2 := y_fk (i := 175) (k := 2) f (y_dis hS (by decide))
  have e176 : M'.2.1 176 = M.2.1 176 := funext (fun q => y_fa (i := 176) f (by decide) (y_dis hS (by decide)) q)
  exact ⟨⟨by rw [h2 132 (by decide), e176]; exact P.1.1, by rw [h2 131 (by decide), e1]; exact P.1.2⟩, by rw [h2 2 (by decide), e2]; exact P.2.1, by rw [e176]; exact P.2.2⟩
theorem lw_cls {b : Nat → Bool} {L : Nat} {M M' : gM} (R : lw_R L M) (H : q_HT 0 M') (f : q_Fr b M M') (h1 : b 12 = true) (h2 : b 100 = true) (h3 : b 101 = true) : lw_R L M' := ⟨lw_Bc R.1 H (q_Fx_of (a := 151) f) (by decide), lw_tc R.1 R.2 (q_Fx_of (a := 151) f) (by decide) h1 h2 h3⟩
theorem lw_ref {S L : Nat} {M M' : gM} (R : lw_R L M) (H : y_HT M') (f : y_Fr S M M') (W' : y_W M') (hS : Nat.land S (2 ^ 1 + 2 ^ 2 + 2 ^ 41) = 0) : lw_R L M' := ⟨lw_Br R.1 H f W', lw_tr R.2 f hS⟩
theorem lw_refW {S L : Nat} {M M' : gM} (R : lw_R L M) (H : y_HT M') (f : y_Fr S M M') (hW : Nat.land S y_wb = 0) (hS : Nat.land S (2 ^ 1 + 2 ^ 2 + 2 ^ 41) = 0) : lw_R L M' := lw_ref R H f (y_Wf f hW R.1.1.2) hS
