/-! a RULE of the class, as it stands behind rule() -/
theorem C_copyOf {i n m : Nat} {w : Int32} {M : gM} (K : g_k M i = (20, n)) (hn : n ≤ 400) (hw : w.toInt = (m : Int)) (hm : m ≤ n) : ∃ M', F_J7_copyOf_59c91 (some i) w M = some (some M.1.length, M') ∧ (g_k M' M.1.length = (20, m) ∧ M'.1.length = M.1.length + 1) ∧ (∀ j, j < M.1.length → (g_k M' j = g_k M j ∧ M'.2.1 j = M.2.1 j) ∧ M'.2.2.1 j = M.2.2.1 j ∧ M'.2.2.2 j = M.2.2.2 j) ∧ ∀ k, k < m → M'.2.1 M.1.length k = M.2.1 i k := by
  have hi : i < M.1.length := q_kl (by rw [K]; show 20 < 90; decide)
  have z0 : (0 : Int32).toInt = 0 := rfl
  have on : (Int32.ofNat n).toInt = (n : Int) := i_ofNat (by omega)
  delta F_J7_copyOf_59c91 F_J7_copyOf_59c91_b0
  rw [t_aN K (by decide), Option.bind_some]
  by_cases c : w = Int32.ofNat n
  · have : m = n := by rw [c] at hw; omega
    subst this
    rw [if_pos c]
    unfold clI
    rw [Option.bind_some, if_pos ⟨by rw [K], by rw [K]; exact hn⟩, Option.bind_some]
    refine ⟨_, rfl, ⟨?_, ?_⟩, fun j hj => ⟨⟨?_, g_row_ne _ _ (by omega)⟩, g_row_ne _ _ (by omega), g_row_ne _ _ (by omega)⟩, fun k hk => ?_⟩
    · have := (g_k_app (M := M) (M' := (M.1 ++ [((20 : Nat), (g_k M i).2)], g_row M.2.1 M.1.length (M.2.1 i), g_row M.2.2.1 M.1.length (fun _ => 0), g_row M.2.2.2 M.1.length (fun _ => none))) rfl).2
      rw [K] at this
      rw [K]
      exact this
    · show (M.1 ++ [_]).length = _
      rw [List.length_append]
      rfl
    · exact (g_k_app (M := M) (M' := (M.1 ++ [((20 : Nat), (g_k M i).2)], g_row M.2.1 M.1.length (M.2.1 i), g_row M.2.2.1 M.1.length (fun _ => 0), g_row M.2.2.2 M.1.length (fun _ => none))) rfl).1 j hj
    · show g_row M.2.1 M.1.length (M.2.1 i) M.1.length k = _
      rw [g_row_same]
  · rw [if_neg c]
    unfold nwD
    have cl : w.toNatClampNeg = m := i_cl hw
    rw [if_pos ⟨fun h => by have := i_lt h; omega, by omega⟩, Option.bind_some, cl]
    have K2 : g_k (nw (20, m) M) i = (20, n) := (nw_k hi).trans K
    have kx : g_k (nw (20, m) M) M.1.length = (20, m) := nw_k1
    rw [t_aN K2 (by decide), Option.bind_some]
    have hmin : (if w < Int32.ofNat n then w else Int32.ofNat n) = w := by
      by_cases d : w < Int32.ofNat n
      · rw [if_pos d]
      · have := i_nlt d
        exact absurd (Int32.toInt_inj.mp (by omega)) c
    rw [hmin]
    unfold cpI
    have z0c : (0 : Int32).toNatClampNeg = 0 := rfl
    rw [Option.bind_some, Option.bind_some, if_pos ⟨⟨by rw [K2], by rw [kx]⟩, ⟨⟨by decide, by decide⟩, fun h => by have := i_lt h; omega⟩, by rw [z0c, cl, K2]; show 0 + m ≤ n; omega, by rw [z0c, cl, kx]; show 0 + m ≤ m; omega⟩, Option.bind_some]
    refine ⟨_, rfl, ⟨kx, ?_⟩, fun j hj => ⟨⟨nw_k hj, ?_⟩, ?_, ?_⟩, fun k hk => ?_⟩
    · show (M.1 ++ [_]).length = _
      rw [List.length_append]
      rfl
    · show g_row (nw (20, m) M).2.1 M.1.length _ j = _
      rw [g_row_ne _ _ (by omega)]
      exact g_row_ne _ _ (by omega)
    · exact g_row_ne _ _ (by omega)
    · exact g_row_ne _ _ (by omega)
    · show g_row (nw (20, m) M).2.1 M.1.length (va_cpy ((nw (20, m) M).2.1 i) _ _ _ _) M.1.length k = _
      rw [g_row_same, z0c, cl]
      have e : (nw (20, m) M).2.1 i = M.2.1 i := g_row_ne _ _ (by omega)
      rw [e]
      unfold va_cpy
      simp
      omega
/-- the reader's end: a new Rule -/
theorem C_b55 {T M : gM} {y : sS} {ms : List (Nat × Nat × Nat)} (Z : c_Z T M y ms) (hm : ms.length ≤ 12) (RR : m_R y.2.2 ms) (hl : 197 ≤ M.1.length) : ∃ M', F_X7_read_b55 (some 148) M = some (some M.1.length, M') ∧ k_rl M' M.1.length (M.1.length + 1) (M.1.length + 2) y.2.2 ms ∧ (M.1.length ≤ M'.1.length ∧ ∀ j, j < M.1.length → (g_k M' j = g_k M j ∧ M'.2.1 j = M.2.1 j) ∧ M'.2.2.1 j = M.2.2.1 j ∧ M'.2.2.2 j = M.2.2.2 j) := by
  obtain ⟨X, h4, hK⟩ := Z
  have C := X.1.1
  have hz := z_Cs C
  obtain ⟨⟨⟨k1, k2⟩, k3⟩, ⟨⟨r0, r1⟩, r2⟩⟩ := z_148 (z_CL C)
  have k9 := z_k131 C
  have hlen := X.2.2.1.1
  have hle := X.2.2.2
  have hO := X.2.2.1.2
  delta F_X7_read_b55
  rw [t_gR k1 r0, Option.bind_some, t_gO k9, Option.bind_some, C_faulty k9, Option.bind_some, if_pos X.1.2, if_pos rfl]
  obtain ⟨x, hx⟩ : ∃ x, x = M.1.length := ⟨_, rfl⟩
  rw [← hx]
  obtain ⟨M0, h0⟩ : ∃ M0, M0 = nw (6, 0) M := ⟨_, rfl⟩
  rw [← h0]
  have l0 : M0.1.length = x + 1 := by
    rw [h0, hx]
    show (M.1 ++ [((6 : Nat), (0 : Nat))]).length = _
    rw [List.length_append]
    rfl
  have kx0 : g_k M0 x = (6, 0) := by rw [h0, hx]; exact nw_k1
  have f0 : ∀ j, j < x → (g_k M0 j = g_k M j ∧ M0.2.1 j = M.2.1 j) ∧ M0.2.2.1 j = M.2.2.1 j ∧ M0.2.2.2 j = M.2.2.2 j := fun j hj => by
    rw [h0]
    exact ⟨⟨nw_k (by omega), g_row_ne _ _ (by omega)⟩, g_row_ne _ _ (by omega), g_row_ne _ _ (by omega)⟩
  clear h0
  have a148 := f0 148 (by omega)
  have a149 := f0 149 (by omega)
  have a150 := f0 150 (by omega)
  rw [t_gR (w := some 149) (a148.1.1.trans k1) (by rw [a148.2.2]; exact r1), Option.bind_some, t_gI (a148.1.1.trans k1), Option.bind_some, a148.1.2]
  obtain ⟨M7, e7, ⟨kj, l7⟩, f7, v7⟩ := C_copyOf (i := 149) (n := 400) (m := y.2.2.length) (w := M.2.1 148 3) (M := M0) (a149.1.1.trans k2) (by decide) hlen (by omega)
  rw [e7, Option.bind_some]
  dsimp only
  rw [l0] at e7 kj l7 f7 v7 ⊢
  have b148 := f7 148 (by omega)
  have b150 := f7 150 (by omega)
  rw [t_gR (w := some 150) ((b148.1.1.trans a148.1.1).trans k1) (by rw [b148.2.2, a148.2.2]; exact r2), Option.bind_some, t_gI ((b148.1.1.trans a148.1.1).trans k1), Option.bind_some, b148.1.2, a148.1.2]
  obtain ⟨M11, e11, ⟨kk, l11⟩, f11, v11⟩ := C_copyOf (i := 150) (n := 36) (m := 3 * ms.length) (w := M.2.1 148 4) (M := M7) ((b150.1.1.trans a150.1.1).trans k3) (by decide) h4 (by omega)
  rw [e11, Option.bind_some]
  dsimp only
  rw [l7] at e11 kk l11 f11 v11 ⊢
  have kx : g_k M11 x = (6, 0) := ((f11 x (by omega)).1.1.trans (f7 x (by omega)).1.1).trans kx0
  delta F_X6_init F_X6_init_b0
  have kx2 : g_k (mR M11 x 0 (some (x + 1))) x = (6, 0) := kx
  rw [t_pR kx, Option.bind_some, t_pR kx2, Option.bind_some, Option.bind_some]
  obtain ⟨Mx, ex⟩ : ∃ Mx, Mx = mR (mR M11 x 0 (some (x + 1))) x 1 (some (x + 1 + 1)) := ⟨_, rfl⟩
  rw [← ex]
  have gx : ∀ j, g_k Mx j = g_k M11 j := fun j => by rw [ex]; rfl
  have ix : Mx.2.1 = M11.2.1 := by rw [ex]; rfl
  have rx : ∀ j, j ≠ x → Mx.2.2.2 j = M11.2.2.2 j := fun j hj => by rw [ex]; exact (g_up_ne _ _ _ hj).trans (g_up_ne _ _ _ hj)
  have j11 := f11 (x + 1) (by omega)
  refine ⟨Mx, rfl, ⟨⟨(gx x).trans kx, ?_, ?_⟩, ⟨⟨?_, ?_⟩, by omega, by omega⟩, ⟨⟨?_, ?_⟩, by omega, hm⟩, RR⟩, ?_, fun j hj => ⟨⟨?_, ?_⟩, ?_, ?_⟩⟩
  · rw [ex, mR_ne (Or.inr (by decide))]
    exact mR_1
  · rw [ex]
    exact mR_1
  · rw [gx, j11.1.1]
    exact kj
  · rw [gx]
    exact kk
  · rw [ix, j11.1.2]
    refine m_L_f (m_c_O hO) (fun j h1 h2 => ?_)
    rw [v7 j (by omega), a149.1.2]
  · rw [ix]
    refine c_K_c (fun q hq => ?_) hK
    rw [v11 q hq, b150.1.2, a150.1.2]
  · have : Mx.1 = M11.1 := by rw [ex]; rfl
    rw [this]
    omega
  · rw [gx, (f11 j (by omega)).1.1, (f7 j (by omega)).1.1]
    exact (f0 j hj).1.1
  · rw [ix, (f11 j (by omega)).1.2, (f7 j (by omega)).1.2]
    exact (f0 j hj).1.2
  · have : Mx.2.2.1 = M11.2.2.1 := by rw [ex]; rfl
    rw [this, (f11 j (by omega)).2.1, (f7 j (by omega)).2.1]
    exact (f0 j hj).2.1
  · rw [rx j (by omega), (f11 j (by omega)).2.2, (f7 j (by omega)).2.2]
    exact (f0 j hj).2.2
theorem t_sR25 {i n y : Nat} {j : Int32} {M : gM} (h : g_k M i = (25, n)) (hy : g_k M y = (6, 0)) (h0 : 0 ≤ j.toInt) (h1 : j.toInt < (n : Int)) : sR 25 M (some i) j (some y) = some (mR M i j.toNatClampNeg (some y)) := by
  unfold sR
  rw [Option.bind_some, Option.bind_some, if_pos ⟨⟨by rw [h], by rw [h]; exact gin_of h0 h1⟩, hy⟩]
/-- rule(), of the class: what it leaves -/
def w_Nr (i : Nat) : Prop := i = 131 ∨ (133 ≤ i ∧ i ≤ 135) ∨ (148 ≤ i ∧ i ≤ 150)
theorem z_Fr_F {M M' : gM} (f : z_Fr M M') : w_F w_Nr M M' := w_F_of f.1.1 f.1.2.2 (fun i hi => funext (fun k => f.2 i k (by unfold z_W; unfold w_Nr at hi; omega)))
theorem C_ruleX {T M : gM} {rc : Nat} (G : k_G M) (hl : 197 ≤ M.1.length) (Z : z_T T M) (hr : (M.2.1 2 12).toInt = (rc : Int)) (h6 : rc < 6) : Ok (F_X11_rule (some 2) M) (fun r => match s_text T with
    | .inl _ => w_F w_Nr M r.2
    | .inr (y, ms) => (∃ M1, w_F w_Nr M M1 ∧ w_F (fun i => i = 2 ∨ i = 3) M1 r.2 ∧ M.1.length ≤ M1.1.length) ∧ (r.2.2.2.2 2 11 = M.2.2.2 2 11 ∧ (r.2.2.1 2 12).toInt = ((rc + 1 : Nat) : Int)) ∧ (∀ t, t ≠ rc → r.2.2.2.2 3 t = M.2.2.2 3 t) ∧ ∃ j js jm, r.2.2.2.2 3 rc = some j ∧ (196 < j ∧ 196 < js ∧ 196 < jm) ∧ k_rl r.2 j js jm y.2.2 ms) := by
  have k2 := G_k2 G
  have k3 : g_k M 3 = (25, 6) := k_kd G (by decide)
  have z6 : (Int32.ofNat 6).toInt = 6 := rfl
  delta F_X11_rule F_X11_rule_b0
  rw [t_gI k2, Option.bind_some, t_gR k2 (G_r3 G), Option.bind_some, t_aN k3 (by decide), Option.bind_some, if_pos (Int32.lt_iff_toInt_lt.mpr (by omega)), t_gR k2 (G_r2 G), Option.bind_some]
  obtain ⟨Mk, c1, c2, c3⟩ := C_read Z
  have k148 := (z_148 Z.1.1).1.1.1
  rw [t_gO k148, Option.bind_some, c1]
  have Gk := k_G_eq G c2.1.1 c2.1.2.2
  have Fk := z_Fr_F c2
  have hlk : 197 ≤ Mk.1.length := by rw [c2.1.1]; exact hl
  cases hit : s_text T with
  | inl e =>
    rw [hit] at c3
    obtain ⟨Y, nm, h4, hn4⟩ := c3
    obtain ⟨p, C⟩ := Y.1
    obtain ⟨⟨⟨k1, _⟩, _⟩, ⟨⟨r0, r1⟩, _⟩⟩ := z_148 (z_CL C)
    have k9 := z_k131 C
    delta F_X7_read_b55
    rw [t_gR k1 r0, Option.bind_some, t_gO k9, Option.bind_some, C_faulty k9, Option.bind_some, if_neg (c_Yn Y), if_neg (by decide), Option.bind_some]
    dsimp only
    rw [t_gR (G_k2 Gk) (G_r0 Gk), Option.bind_some, t_pI k9, Option.bind_some]
    have g2 : g_k (mI Mk 131 6 (0 : Int32)) 2 = (11, 0) := G_k2 Gk
    have g9 : g_k (mI Mk 131 6 (0 : Int32)) 131 = (9, 0) := k9
    rw [if_pos rfl, t_gR g2 (G_r0 Gk), Option.bind_some, t_gI g9, Option.bind_some]
    exact Ok_s (w_F_t Fk (w_F_mI (Or.inl rfl)))
  | inr yms =>
    obtain ⟨y, ms⟩ := yms
    rw [hit] at c3
    obtain ⟨Z2, hms⟩ := c3
    obtain ⟨RR, _⟩ := m_text hit
    obtain ⟨M7, e7, K7, l7, f7⟩ := C_b55 Z2 hms RR hlk
    rw [e7, Option.bind_some]
    dsimp only
    have F7 : w_F w_Nr Mk M7 := ⟨⟨l7, fun j hj => (f7 j hj).1.1⟩, fun j hj _ => ⟨(f7 j hj).1.2, (f7 j hj).2.2⟩⟩
    have a2 := f7 2 (by omega)
    have a3 := f7 3 (by omega)
    have a131 := f7 131 (by omega)
    have g2 : g_k M7 2 = (11, 0) := a2.1.1.trans (G_k2 Gk)
    have g3 : g_k M7 3 = (25, 6) := a3.1.1.trans (k_kd Gk (by decide))
    have g131 : g_k M7 131 = (9, 0) := a131.1.1.trans (k_kd Gk (by decide))
    have r20 : M7.2.2.2 2 0 = some 131 := by rw [a2.2.2]; exact G_r0 Gk
    have r23 : M7.2.2.2 2 3 = some 3 := by rw [a2.2.2]; exact G_r3 Gk
    have i12 : M7.2.1 2 12 = M.2.1 2 12 := by rw [a2.1.2]; exact c2.2 2 12 (by unfold z_W; omega)
    have r3 : ∀ t, M7.2.2.2 3 t = M.2.2.2 3 t := fun t => by rw [a3.2.2, c2.1.2.2]
    have r211 : M7.2.2.2 2 11 = M.2.2.2 2 11 := by rw [a2.2.2, c2.1.2.2]
    rw [t_gR g2 r20, Option.bind_some, t_pI g131, Option.bind_some, if_neg (by simp)]
    obtain ⟨M9, e9⟩ : ∃ M9, M9 = mI M7 131 6 (0 : Int32) := ⟨_, rfl⟩
    rw [← e9]
    have F9 : w_F w_Nr M M9 := by
      rw [e9]
      exact w_F_t Fk (w_F_t F7 (w_F_mI (Or.inl rfl)))
    have o9 : ∀ i, i ≠ 131 → M9.2.1 i = M7.2.1 i := fun i hi => by rw [e9]; exact g_up_ne _ _ _ hi
    have g9 : ∀ i, g_k M9 i = g_k M7 i := fun i => by rw [e9]; rfl
    have rf9 : M9.2.2.2 = M7.2.2.2 := by rw [e9]; rfl
    have l9 : M.1.length ≤ M9.1.length := F9.1.1
    have K9 := k_rl_m (M' := M9) K7 (by rw [e9]; rfl) rf9 (o9 _ (by omega)) (o9 _ (by omega))
    have kx := K9.1.1
    clear e9
    rw [t_gR (w := some 3) ((g9 2).trans g2) (by rw [rf9]; exact r23), Option.bind_some, t_gI ((g9 2).trans g2), Option.bind_some, o9 2 (by decide), i12, t_sR25 ((g9 3).trans g3) kx (by omega) (by omega), Option.bind_some, i_cl hr]
    obtain ⟨x, hx⟩ : ∃ x, x = Mk.1.length := ⟨_, rfl⟩
    rw [← hx] at K9 kx hlk ⊢
    obtain ⟨M12, e12⟩ : ∃ M12, M12 = mR M9 3 rc (some x) := ⟨_, rfl⟩
    rw [← e12]
    have g12 : ∀ i, g_k M12 i = g_k M9 i := fun i => by rw [e12]; rfl
    have i12' : M12.2.1 = M9.2.1 := by rw [e12]; rfl
    rw [t_gI ((g12 2).trans ((g9 2).trans g2)), Option.bind_some, i12', o9 2 (by decide), i12, t_pI ((g12 2).trans ((g9 2).trans g2)), Option.bind_some]
    obtain ⟨M14, e14⟩ : ∃ M14, M14 = mI M12 2 12 (M.2.1 2 12 + (1 : Int32)) := ⟨_, rfl⟩
    rw [← e14]
    have g14 : ∀ i, g_k M14 i = g_k M12 i := fun i => by rw [e14]; rfl
    rw [t_gI ((g14 2).trans ((g12 2).trans ((g9 2).trans g2))), Option.bind_some]
    have F14 : w_F (fun i => i = 2 ∨ i = 3) M9 M14 := by
      rw [e14]
      refine w_F_t ?_ (w_F_mI (Or.inl rfl))
      rw [e12]
      exact w_F_mR (Or.inr rfl)
    have rr : M14.2.2.2 = M12.2.2.2 := by rw [e14]; rfl
    have a1 := i_addc (x := M.2.1 2 12) (c := (1 : Int32)) (n := 1) rfl (by omega) (by omega)
    refine Ok_s ⟨⟨M9, F9, F14, l9⟩, ⟨?_, ?_⟩, fun t ht => ?_, x, x + 1, x + 2, ?_, ⟨by omega, by omega, by omega⟩, ?_⟩
    · show M14.2.2.2 2 11 = _
      rw [rr, e12, mR_ne (Or.inl (by decide)), rf9]
      exact r211
    · show (M14.2.1 2 12).toInt = _
      rw [e14, y_mI1]
      omega
    · show M14.2.2.2 3 t = _
      rw [rr, e12, mR_ne (Or.inr ht), rf9]
      exact r3 t
    · show M14.2.2.2 3 rc = _
      rw [rr, e12]
      exact mR_1
    · have q1 : M14.2.2.2 x = M9.2.2.2 x := by rw [rr, e12]; exact g_up_ne _ _ _ (by omega)
      have q2 : ∀ i, i ≠ 2 → M14.2.1 i = M9.2.1 i := fun i hi => by rw [e14, ← i12']; exact g_up_ne _ _ _ hi
      unfold k_rl at K9 ⊢
      rw [(g14 _).trans (g12 _), (g14 _).trans (g12 _), (g14 _).trans (g12 _), q1, q2 _ (by omega), q2 _ (by omega)]
      exact K9
