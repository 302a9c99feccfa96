/-! feed and end, of both -/
def u_5 (v1 v2 v3 v4 v5 : Int32) (f : Nat → Int32) (n : Nat) : Nat → Int32 := u_4 v5 (u_4 v4 (u_4 v3 (u_4 v2 (u_4 v1 f n) (n + 4)) (n + 4 + 4)) (n + 4 + 4 + 4)) (n + 4 + 4 + 4 + 4)
theorem u_5_r {v1 v2 v3 v4 v5 : Int32} {f : Nat → Int32} {n : Nat} (h : ∀ q, -128 ≤ (f q).toInt ∧ (f q).toInt ≤ 127) : ∀ q, -128 ≤ (u_5 v1 v2 v3 v4 v5 f n q).toInt ∧ (u_5 v1 v2 v3 v4 v5 f n q).toInt ≤ 127 := u_L_r 4 (u_L_r 4 (u_L_r 4 (u_L_r 4 (u_L_r 4 h))))
theorem u_Zk {M M' : gM} (h : u_Z M) (hk : M'.1 = M.1) (hr : M'.2.2.2 = M.2.2.2) : u_Z M' := by
  have e : ∀ i, g_k M' i = g_k M i := fun i => q_k_of hk
  exact ⟨⟨by rw [e]; exact h.1.1, by rw [e]; exact h.1.2⟩, by rw [hr]; exact h.2⟩
theorem C_feed {v1 v2 v3 v4 v5 : Int32} {M : gM} {n : Nat} (k2 : g_k M 2 = (11, 0)) (r2 : M.2.2.2 2 0 = some 131) (Z : u_Z M) (hn : (M.2.1 131 6).toInt = (n : Int)) (hb : n ≤ 400) : Ok (F_X11_feed (some 2) v1 v2 v3 v4 v5 M) (fun r => (n + 20 ≤ 400 → r.1.toInt = ((n + 20 : Nat) : Int) ∧ r.2.2.1 132 = u_5 v1 v2 v3 v4 v5 (M.2.1 132) n ∧ (r.2.2.1 131 6).toInt = ((n + 20 : Nat) : Int)) ∧ (¬ n + 20 ≤ 400 → r = (-1, M))) := by
  have z400 : (400 : Int32).toInt = 400 := rfl
  have a := i_addc (x := M.2.1 131 6) (c := (20 : Int32)) (n := 20) rfl (by omega) (by omega)
  delta F_X11_feed F_X11_feed_b0
  rw [t_gR k2 r2, Option.bind_some, t_gI Z.1.1, Option.bind_some]
  by_cases c : n + 20 ≤ 400
  · rw [if_pos (Int32.le_iff_toInt_le.mpr (by omega)), Option.bind_some, t_gO Z.1.1, Option.bind_some]
    refine Ok_b (C_append (v := v1) Z hn (by omega)) (fun M1 z1 => ?_)
    obtain ⟨⟨a1, b1⟩, c1, d1⟩ := z1
    have Z1 := u_Zk Z a1 b1
    have k21 : g_k M1 2 = (11, 0) := (q_k_of a1).trans k2
    have r21 : M1.2.2.2 2 0 = some 131 := by rw [b1]; exact r2
    rw [t_gR k21 r21, Option.bind_some, t_gO Z1.1.1, Option.bind_some]
    refine Ok_b (C_append (v := v2) Z1 d1 (by omega)) (fun M2 z2 => ?_)
    obtain ⟨⟨a2, b2⟩, c2, d2⟩ := z2
    have Z2 := u_Zk Z1 a2 b2
    have k22 : g_k M2 2 = (11, 0) := (q_k_of a2).trans k21
    have r22 : M2.2.2.2 2 0 = some 131 := by rw [b2]; exact r21
    rw [t_gR k22 r22, Option.bind_some, t_gO Z2.1.1, Option.bind_some]
    refine Ok_b (C_append (v := v3) Z2 d2 (by omega)) (fun M3 z3 => ?_)
    obtain ⟨⟨a3, b3⟩, c3, d3⟩ := z3
    have Z3 := u_Zk Z2 a3 b3
    have k23 : g_k M3 2 = (11, 0) := (q_k_of a3).trans k22
    have r23 : M3.2.2.2 2 0 = some 131 := by rw [b3]; exact r22
    rw [t_gR k23 r23, Option.bind_some, t_gO Z3.1.1, Option.bind_some]
    refine Ok_b (C_append (v := v4) Z3 d3 (by omega)) (fun M4 z4 => ?_)
    obtain ⟨⟨a4, b4⟩, c4, d4⟩ := z4
    have Z4 := u_Zk Z3 a4 b4
    have k24 : g_k M4 2 = (11, 0) := (q_k_of a4).trans k23
    have r24 : M4.2.2.2 2 0 = some 131 := by rw [b4]; exact r23
    rw [t_gR k24 r24, Option.bind_some, t_gO Z4.1.1, Option.bind_some]
    refine Ok_b (C_append (v := v5) Z4 d4 (by omega)) (fun M5 z5 => ?_)
    obtain ⟨⟨a5, b5⟩, c5, d5⟩ := z5
    have Z5 := u_Zk Z4 a5 b5
    have k25 : g_k M5 2 = (11, 0) := (q_k_of a5).trans k24
    have r25 : M5.2.2.2 2 0 = some 131 := by rw [b5]; exact r24
    rw [t_gR k25 r25, Option.bind_some, t_gI Z5.1.1, Option.bind_some]
    refine Ok_s ⟨fun _ => ⟨by rw [d5], ?_, by rw [d5]⟩, fun z => absurd c z⟩
    show M5.2.1 132 = _
    rw [c5, c4, c3, c2, c1]
    rfl
  · rw [if_neg (fun z => by have := i_le z; omega)]
    exact Ok_s ⟨fun z => absurd z c, fun _ => rfl⟩
theorem E_feed {v1 v2 v3 v4 v5 : Int32} {M : gM} {n : Nat} (H : y_HT M) (hn : (M.2.1 175 1).toInt = (n : Int)) (hb : n ≤ 400) : Ok (F_X12_feed (some 175) v1 v2 v3 v4 v5 M) (fun r => (n + 20 ≤ 400 → r.1.toInt = ((n + 20 : Nat) : Int) ∧ r.2.2.1 176 = u_5 v1 v2 v3 v4 v5 (M.2.1 176) n ∧ (r.2.2.1 175 1).toInt = ((n + 20 : Nat) : Int)) ∧ (¬ n + 20 ≤ 400 → r = (-1, M))) := by
  have z400 : (400 : Int32).toInt = 400 := rfl
  have a := i_addc (x := M.2.1 175 1) (c := (20 : Int32)) (n := 20) rfl (by omega) (by omega)
  delta F_X12_feed F_X12_feed_b0
  rw [e_gI H, Option.bind_some]
  by_cases c : n + 20 ≤ 400
  · rw [if_pos (Int32.le_iff_toInt_le.mpr (by omega)), e_gO H, Option.bind_some]
    refine Ok_b (Ok_and (S_X12_four (l1 := v1) H (by omega)) (E_four (v := v1) H hn (by omega))) (fun M1 z1 => ?_)
    obtain ⟨⟨⟨H1, _⟩, _⟩, c1, d1⟩ := z1
    rw [e_gC H1, Option.bind_some]
    refine Ok_b (Ok_and (S_X12_four (l1 := v2) H1 (by omega)) (E_four (v := v2) H1 d1 (by omega))) (fun M2 z2 => ?_)
    obtain ⟨⟨⟨H2, _⟩, _⟩, c2, d2⟩ := z2
    rw [e_gC H2, Option.bind_some]
    refine Ok_b (Ok_and (S_X12_four (l1 := v3) H2 (by omega)) (E_four (v := v3) H2 d2 (by omega))) (fun M3 z3 => ?_)
    obtain ⟨⟨⟨H3, _⟩, _⟩, c3, d3⟩ := z3
    rw [e_gC H3, Option.bind_some]
    refine Ok_b (Ok_and (S_X12_four (l1 := v4) H3 (by omega)) (E_four (v := v4) H3 d3 (by omega))) (fun M4 z4 => ?_)
    obtain ⟨⟨⟨H4, _⟩, _⟩, c4, d4⟩ := z4
    rw [e_gC H4, Option.bind_some]
    refine Ok_b (Ok_and (S_X12_four (l1 := v5) H4 (by omega)) (E_four (v := v5) H4 d4 (by omega))) (fun M5 z5 => ?_)
    obtain ⟨⟨⟨H5, _⟩, _⟩, c5, d5⟩ := z5
    rw [e_gI H5, Option.bind_some]
    refine Ok_s ⟨fun _ => ⟨by rw [d5], ?_, by rw [d5]⟩, fun z => absurd c z⟩
    show M5.2.1 176 = _
    rw [c5, c4, c3, c2, c1]
    rfl
  · rw [if_neg (fun z => by have := i_le z; omega)]
    exact Ok_s ⟨fun z => absurd z c, fun _ => rfl⟩
theorem C_end {l : Int32} {M : gM} (k2 : g_k M 2 = (11, 0)) (r2 : M.2.2.2 2 0 = some 131) (Z : u_Z M) : F_X11_end (some 2) l M = some (if l < 0 then (-1, M) else if l ≤ M.2.1 131 6 then (l, mI M 131 6 l) else (-1, M)) := by
  delta F_X11_end F_X11_end_b0 F_X11_end_b15
  rw [t_gR k2 r2, Option.bind_some, t_gI Z.1.1, Option.bind_some, Option.bind_some, t_pI Z.1.1, Option.bind_some]
  split
  · rfl
  · split <;> rfl
theorem E_end {l : Int32} {M : gM} (H : y_HT M) : F_X12_end (some 175) l M = some (if l < 0 then (-1, M) else if l ≤ M.2.1 175 1 then (l, mI M 175 1 l) else (-1, M)) := by
  delta F_X12_end F_X12_end_b0 F_X12_end_b12
  rw [e_gI H, Option.bind_some, e_pI H, Option.bind_some]
  split
  · rfl
  · split <;> rfl
/-- the reference's reader empties the tape -/
theorem E_rd_b88e {M : gM} {r : Int32 × gM} (h : F_X12_readsAll_b88 (some 175) M = some r) : r.2.2.1 175 1 = 0 := by
  delta F_X12_readsAll_b88 at h
  obtain ⟨M1, h1, h⟩ := g_bd h
  obtain ⟨v, h2, h⟩ := g_bd h
  have e : M1.2.1 175 1 = 0 := by
    unfold pI at h1
    rw [Option.bind_some] at h1
    split at h1
    · cases h1
      exact y_mI1
    · cases h1
  split at h
  · cases h; exact e
  · cases h; exact e
theorem E_rd_b66e {l1 : Int32} {M : gM} {r : Int32 × gM} (h : F_X12_readsAll_b66 (some 175) l1 M = some r) : r.2.2.1 175 1 = 0 := by
  delta F_X12_readsAll_b66 at h
  split at h
  · exact E_rd_b88e h
  · obtain ⟨i, h1, h⟩ := g_bd h
    have ei : i = 175 := by
      unfold gO at h1
      rw [Option.bind_some] at h1
      split at h1
      · cases h1; rfl
      · cases h1
    subst ei
    obtain ⟨⟨v, M3⟩, h2, h⟩ := g_bd h
    dsimp only at h
    split at h
    · exact E_rd_b88e h
    · obtain ⟨_, _, h⟩ := g_bd h
      obtain ⟨_, _, h⟩ := g_bd h
      obtain ⟨⟨_, M7⟩, _, h⟩ := g_bd h
      exact E_rd_b88e h
theorem E_rd_L35e : ∀ (n : Nat) {l1 : Int32} {M : gM} {r : Int32 × gM}, F_X12_readsAll_L35 n (some 175) l1 M = some r → r.2.2.1 175 1 = 0 := by
  intro n
  induction n with
  | zero => intro l1 M r h; cases h
  | succ n ih =>
    intro l1 M r h
    have h : F_X12_readsAll_b35 (F_X12_readsAll_L35 n) (some 175) l1 M = some r := h
    delta F_X12_readsAll_b35 at h
    split at h
    · exact E_rd_b66e h
    · obtain ⟨i, h1, h⟩ := g_bd h
      have ei : i = 175 := by
        unfold gO at h1
        rw [Option.bind_some] at h1
        split at h1
        · cases h1; rfl
        · cases h1
      subst ei
      obtain ⟨⟨v, M3⟩, h2, h⟩ := g_bd h
      dsimp only at h
      split at h
      · obtain ⟨_, _, h⟩ := g_bd h
        obtain ⟨_, _, h⟩ := g_bd h
        obtain ⟨_, _, h⟩ := g_bd h
        obtain ⟨⟨_, _⟩, _, h⟩ := g_bd h
        exact ih h
      · exact E_rd_b66e h
theorem E_rd_e {M : gM} {r : Int32 × gM} (h : F_X12_readsAll (some 175) M = some r) : r.2.2.1 175 1 = 0 := by
  delta F_X12_readsAll F_X12_readsAll_b0 at h
  obtain ⟨_, _, h⟩ := g_bd h
  obtain ⟨_, _, h⟩ := g_bd h
  obtain ⟨_, _, h⟩ := g_bd h
  obtain ⟨_, _, h⟩ := g_bd h
  obtain ⟨_, _, h⟩ := g_bd h
  obtain ⟨_, _, h⟩ := g_bd h
  obtain ⟨M7, _, h⟩ := g_bd h
  obtain ⟨i, h1, h⟩ := g_bd h
  have ei : i = 175 := by
    unfold gO at h1
    rw [Option.bind_some] at h1
    split at h1
    · cases h1; rfl
    · cases h1
  subst ei
  obtain ⟨⟨_, _⟩, _, h⟩ := g_bd h
  exact E_rd_L35e _ h
