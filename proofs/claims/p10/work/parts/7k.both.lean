/-! feed, end, house and rule, of both -/
theorem lw_rc {b : Nat → Bool} {a : Nat} {M M' : gM} (f : q_Fx b a M M') : ∀ i, y_cs i → M'.2.1 i = M.2.1 i := fun i hi => (f.2.1 i (Or.inl (lw_cs.mpr hi))).1
theorem lw_rr {S : Nat} {M M' : gM} (f : y_Fr S M M') : ∀ i, ¬ y_cs i → M'.2.1 i = M.2.1 i := fun i hi => (f.2.2 i hi).1
theorem lw_k2 {L : Nat} {M : gM} (R : lw_B L M) : (g_k M 2 = (11, 0) ∧ M.2.2.2 2 0 = some 131) ∧ u_Z M := ⟨⟨R.2.1.1.1.2, R.2.2.2.1⟩, ⟨⟨R.2.2.1.1.1.1.1, R.2.2.1.1.1.1.2⟩, R.2.2.1.2.1.1.1⟩⟩
def lw_2 (L : Nat) (M : gM) (o1 : Option (Int32 × gM)) (o2 : gM → Option (Int32 × gM)) : Prop := ∃ w M1 M2, (o1 = some (w, M1) ∧ lw_B L M1 ∧ M1.2.1 0 = M.2.1 0) ∧ o2 M1 = some (w, M2) ∧ lw_R L M2 ∧ M2.2.1 0 = M.2.1 0
theorem lw_n {L : Nat} {M : gM} (R : lw_R L M) : ((M.2.1 175 1).toInt = (n_s M : Int) ∧ (M.2.1 131 6).toInt = (n_s M : Int)) ∧ n_s M ≤ 400 := by
  have s1 := n_s1 R.1.1.1.2
  exact ⟨⟨s1.1, by rw [R.2.1.2]; exact s1.1⟩, s1.2⟩
theorem lw_feed {L : Nat} {v1 v2 v3 v4 v5 : Int32} {M : gM} (R : lw_R L M) : lw_2 L M (F_X11_feed (some 2) v1 v2 v3 v4 v5 M) (F_X12_feed (some 175) v1 v2 v3 v4 v5) := by
  obtain ⟨⟨n1, n2⟩, n4⟩ := lw_n R
  obtain ⟨⟨k2, r2⟩, Z⟩ := lw_k2 R.1
  obtain ⟨⟨w1, M1⟩, e1, z1, c1, c2⟩ := Ok_and (S_X11_feed (l1 := v1) (l2 := v2) (l3 := v3) (l4 := v4) (l5 := v5) R.1.1.1.1 R.1.2.1.1.1) (C_feed (v1 := v1) (v2 := v2) (v3 := v3) (v4 := v4) (v5 := v5) k2 r2 Z n2 n4)
  have f1 := q_Fx_of (a := 151) z1.2.2
  have B1 := lw_Bc R.1 z1.2.1 f1 (by decide)
  have rc := lw_rc f1
  dsimp only at f1 B1 rc c1 c2
  have m1 : (M1.2.1 175 1).toInt = (n_s M : Int) := by rw [rc 175 (by decide)]; exact n1
  obtain ⟨⟨w2, M2⟩, e2, z2, d1, d2⟩ := Ok_and (S_X12_feed (l1 := v1) (l2 := v2) (l3 := v3) (l4 := v4) (l5 := v5) B1.1.1.2) (E_feed (v1 := v1) (v2 := v2) (v3 := v3) (v4 := v4) (v5 := v5) B1.1.1.2 m1 n4)
  have f2 := z2.2.2
  have B2 := lw_Br B1 z2.2.1 f2 (y_Wf f2 (by decide) B1.1.2)
  have rr := lw_rr f2
  dsimp only at f2 B2 rr d1 d2
  have e12 : M1.2.1 2 12 = M.2.1 2 12 := f1.2.2.1 2 (by have := R.1.1.1.1.1.1; omega) (by decide) 12 (by rw [k2]; rfl)
  have es : M2.2.1 0 = M.2.1 0 := (lw_s_ref f2).trans (lw_s_cls f1)
  by_cases c : n_s M + 20 ≤ 400
  · obtain ⟨a1, a2, a3⟩ := c1 c
    obtain ⟨b1, b2, b3⟩ := d1 c
    have ew : w2 = w1 := Int32.toInt_inj.mp (by omega)
    subst ew
    refine ⟨w2, M1, M2, ⟨e1, B1, lw_s_cls f1⟩, e2, ⟨B2, ⟨⟨?_, ?_⟩, ?_, ?_⟩⟩, es⟩
    · rw [rr 132 (by decide), a2, b2, R.2.1.1, rc 176 (by decide)]
    · rw [rr 131 (by decide)]
      exact Int32.toInt_inj.mp (by omega)
    · rw [rr 2 (by decide), e12, y_fk (i := 175) (k := 2) f2 (by decide), rc 175 (by decide)]
      exact R.2.2.1
    · rw [b2]
      exact u_5_r (by rw [rc 176 (by decide)]; exact R.2.2.2)
  · have a := c2 c
    have b := d2 c
    cases a
    cases b
    exact ⟨_, M, M, ⟨e1, B1, rfl⟩, e2, R, rfl⟩
theorem lw_end {L : Nat} {l : Int32} {M : gM} (R : lw_R L M) : lw_2 L M (F_X11_end (some 2) l M) (F_X12_end (some 175) l) := by
  obtain ⟨⟨k2, r2⟩, Z⟩ := lw_k2 R.1
  have E1 := C_end (l := l) k2 r2 Z
  by_cases c0 : l < 0
  · rw [if_pos c0] at E1
    have E2 := E_end (l := l) R.1.1.1.2
    rw [if_pos c0] at E2
    exact ⟨_, M, M, ⟨E1, R.1, rfl⟩, E2, R, rfl⟩
  rw [if_neg c0] at E1
  by_cases c1 : l ≤ M.2.1 131 6
  · rw [if_pos c1] at E1
    obtain ⟨⟨w1, M1⟩, e1, z1⟩ := S_X11_end (l1 := l) R.1.1.1.1 R.1.2.1.1.1
    have e1' := e1.symm.trans E1
    cases e1'
    have f1 := q_Fx_of (a := 151) z1.2.2
    have B1 := lw_Bc R.1 z1.2.1 f1 (by decide)
    have rc := lw_rc f1
    dsimp only at f1 B1 rc
    have E2 := E_end (l := l) B1.1.1.2
    rw [if_neg c0, if_pos (by rw [rc 175 (by decide), ← R.2.1.2]; exact c1)] at E2
    obtain ⟨⟨w2, M2⟩, e2, z2⟩ := S_X12_end (l1 := l) B1.1.1.2
    have e2' := e2.symm.trans E2
    cases e2'
    have f2 := z2.2.2
    have B2 := lw_Br B1 z2.2.1 f2 (y_Wf f2 (by decide) B1.1.2)
    dsimp only at f2 B2
    refine ⟨_, _, _, ⟨E1, B1, lw_s_cls f1⟩, E2, ⟨B2, ⟨⟨?_, ?_⟩, ?_, ?_⟩⟩, (lw_s_ref f2).trans (lw_s_cls f1)⟩
    · exact R.2.1.1
    · rw [y_mI1, mI_ne (Or.inl (by decide)), y_mI1]
    · exact R.2.2.1
    · exact R.2.2.2
  · rw [if_neg c1] at E1
    have E2 := E_end (l := l) R.1.1.1.2
    rw [if_neg c0, if_neg (by rw [← R.2.1.2]; exact c1)] at E2
    exact ⟨_, M, M, ⟨E1, R.1, rfl⟩, E2, R, rfl⟩
/-- house: what it answers is not asked here -/
theorem lw_house {L : Nat} {M : gM} (R : lw_R L M) : ∃ w1 w2 M1 M2, (F_X11_house (some 2) M = some (w1, M1) ∧ lw_B L M1 ∧ M1.2.1 0 = M.2.1 0) ∧ F_X12_house (some 175) M1 = some (w2, M2) ∧ lw_R L M2 ∧ M2.2.1 0 = M.2.1 0 := by
  obtain ⟨⟨k2, r2⟩, Z⟩ := lw_k2 R.1
  obtain ⟨⟨w1, M1⟩, e1, z1, c1⟩ := Ok_and (S_X11_house R.1.1.1.1 R.1.2.1.1.1) (C_house R.1.1.1.1 R.1.2.1.1.1 r2)
  have f1 := q_Fx_of (a := 151) z1.2.2
  have B1 := lw_Bc R.1 z1.2.1 f1 (by decide)
  have rc := lw_rc f1
  dsimp only at f1 B1 rc c1
  obtain ⟨⟨w2, M2⟩, e2, z2, d1⟩ := Ok_and (S_X12_house B1.1.1.2) (E_house B1.1.1.2)
  have f2 := z2.2
  have B2 := lw_Br B1 z2.1 f2 (y_Wf f2 (by decide) B1.1.2)
  have rr := lw_rr f2
  dsimp only at f2 B2 rr d1
  have hl := R.1.1.1.1.1.1
  have e12 : M1.2.1 2 12 = M.2.1 2 12 := f1.2.2.1 2 (by omega) (by decide) 12 (by rw [k2]; rfl)
  have e132 : M1.2.1 132 = M.2.1 132 := funext (fun k => f1.2.2.1 132 (by omega) (by decide) k (by rw [Z.1.2]; rfl))
  have e176 : M2.2.1 176 = M1.2.1 176 := funext (fun q => y_fa (i := 176) f2 (by decide) (by decide) q)
  refine ⟨w1, w2, M1, M2, ⟨e1, B1, lw_s_cls f1⟩, e2, ⟨B2, ⟨⟨?_, ?_⟩, ?_, ?_⟩⟩, (lw_s_ref f2).trans (lw_s_cls f1)⟩
  · rw [rr 132 (by decide), e132, e176, rc 176 (by decide)]
    exact R.2.1.1
  · rw [rr 131 (by decide), c1, d1]
  · rw [rr 2 (by decide), e12, y_fk (i := 175) (k := 2) f2 (by decide), rc 175 (by decide)]
    exact R.2.2.1
  · rw [e176, rc 176 (by decide)]
    exact R.2.2.2
theorem C_rule6 {M : gM} (H : q_HT 0 M) (K : q_Kd M 2 (11, 0)) (h : (M.2.1 2 12).toInt = 6) : Ok (F_X11_rule (some 2) M) (fun r => r = (-1, M)) := by
  delta F_X11_rule F_X11_rule_b0
  refine d_gI (lo := 0) (hi := 6) H K (by decide) rfl (fun v1 q1 e1 => ?_)
  refine d_gR (q := (25, 6)) H K (by decide) rfl (fun v2 rr2 K2 => ?_)
  refine c_aN K2 (by decide) (by decide) (fun v3 e3 => ?_)
  refine Ok_e (fun z => ?_) (Ok_s rfl)
  have z := i_lt z
  rw [q1] at h
  omega
theorem E_rule6 {M : gM} (H : y_HT M) (h : (M.2.1 175 2).toInt = 6) : F_X12_rule (some 175) M = some (-1, M) := by
  delta F_X12_rule F_X12_rule_b0
  rw [e_gI H, Option.bind_some, if_pos (Int32.toInt_inj.mp h)]
theorem lw_rule {L : Nat} {M : gM} (R : lw_R L M) : lw_2 L M (F_X11_rule (some 2) M) (F_X12_rule (some 175)) := by
  obtain ⟨⟨n1, n2⟩, n4⟩ := lw_n R
  obtain ⟨⟨k2, r2⟩, Z⟩ := lw_k2 R.1
  by_cases c6 : (M.2.1 2 12).toInt = 6
  · obtain ⟨r, e1, er⟩ := C_rule6 R.1.1.1.1 R.1.2.1.1.1 c6
    subst er
    have E2 := E_rule6 R.1.1.1.2 (by rw [← R.2.2.1]; exact c6)
    exact ⟨_, M, M, ⟨e1, R.1, rfl⟩, E2, R, rfl⟩
  have B : z_B M := ⟨R.2.2.2, n4⟩
  obtain ⟨⟨w1, M1⟩, e1, z1, ⟨c1, c2⟩, c3⟩ := Ok_and (S_X11_rule R.1.1.1.1 R.1.2.1.1.1) (C_rule (T := M) R.1.1.1.1 R.1.2.1.1.1 ⟨⟨R.1.2.2.1, B⟩, R.2.1.1, n2⟩ R.1.2.2.2 c6)
  have f1 := q_Fx_of (a := 151) z1.2.2
  have B1 := lw_Bc R.1 z1.2.1 f1 (by decide)
  have rc := lw_rc f1
  dsimp only at f1 B1 rc c1 c2 c3
  obtain ⟨⟨w2, M2⟩, e2, z2, d1, d3⟩ := Ok_and (S_X12_rule B1.1.1.2 B1.1.2) (E_rule (T := M) B B1.1.1.2 (rc 176 (by decide)) (by unfold n_s; rw [rc 175 (by decide)]) (by rw [rc 175 (by decide), ← R.2.2.1]; exact c6))
  have f2 := z2.1.2
  have B2 := lw_Br B1 z2.1.1 f2 z2.2
  have rr := lw_rr f2
  dsimp only at f2 B2 rr d1 d3
  have e176 : M2.2.1 176 = M1.2.1 176 := funext (fun q => y_fa (i := 176) f2 (by decide) (by decide) q)
  have same : w2 = w1 ∧ M1.2.1 2 12 = M2.2.1 175 2 := by
    have q2 : M1.2.1 175 2 = M.2.1 2 12 := by rw [rc 175 (by decide)]; exact R.2.2.1.symm
    generalize s_text M = t at c3 d3
    cases t with
    | inl e =>
      obtain ⟨⟨u, a1, a2⟩, a3⟩ := c3
      obtain ⟨⟨u2, b1, b2⟩, b3⟩ := d3
      have : u2 = u := Int32.toInt_inj.mp (by omega)
      exact ⟨by rw [a1, b1, this], by rw [a3, b3, q2]⟩
    | inr y =>
      obtain ⟨a1, a3⟩ := c3
      obtain ⟨b1, b3⟩ := d3
      exact ⟨by rw [a1, b1, q2], Int32.toInt_inj.mp (by rw [a3, b3, q2])⟩
  obtain ⟨ew, e2r⟩ := same
  subst ew
  refine ⟨w2, M1, M2, ⟨e1, B1, lw_s_cls f1⟩, e2, ⟨B2, ⟨⟨?_, ?_⟩, ?_, ?_⟩⟩, (lw_s_ref f2).trans (lw_s_cls f1)⟩
  · rw [rr 132 (by decide), c2, e176, rc 176 (by decide)]
    exact R.2.1.1
  · rw [rr 131 (by decide), c1, d1]
  · rw [rr 2 (by decide)]
    exact e2r
  · rw [e176, rc 176 (by decide)]
    exact R.2.2.2
