/-! house() and rule() of both; the first memory -/
/-- the reference stands but for 'said' and how many can be undone -/
theorem w_E_r2 {S : Nat} {M M' : gM} {σ σ' : Nat → Int32} {sz sz' : Nat} {P I : Nat → Nat → Int32} {rc : Nat} {R : Nat → List (Nat × Int32) × List (Nat × Nat × Nat)} (E : w_E M σ sz P I rc R) (f : y_Fr S M M') (h : Nat.land S (2 ^ 2 + 2 ^ 42 + 2 ^ 44 + 2 ^ 45 + 2 ^ 52 + 2 ^ 58) = 0) (hs : M'.2.1 185 = σ') (hz : (M'.2.1 175 25).toInt = (sz' : Int)) (hle : sz' ≤ sz) : w_E M' σ' sz' P I rc R := by
  obtain ⟨⟨⟨a1, a2⟩, a3⟩, a4, a5, a6⟩ := E
  have e187 := fun q => y_fa (i := 187) f (by decide) (y_dis h (by decide)) q
  have e193 := fun q => y_fa (i := 193) f (by decide) (y_dis h (by decide)) q
  refine ⟨⟨⟨hs, hz⟩, fun i hi j hj => (e187 _).trans (a3 i (by omega) j hj)⟩, fun k hk j hj => (e193 _).trans (a4 k hk j hj), by rw [y_fk (i := 175) (k := 2) f (y_dis h (by decide))]; exact a5, fun t ht => ?_⟩
  have h3 := a6 t ht
  have e1 : M'.2.1 179 = M.2.1 179 := funext (fun q => y_fa (i := 179) f (by decide) (y_dis h (by decide)) q)
  have e2 : M'.2.1 180 = M.2.1 180 := funext (fun q => y_fa (i := 180) f (by decide) (y_dis h (by decide)) q)
  have e3 : y_sn M' t = y_sn M t := y_snf f (y_dis h (by decide)) t
  unfold r_rl at h3 ⊢
  rw [e1, e2, e3]
  exact h3
theorem lw9_house {L : Nat} {M : gM} (R : lw9 L M) : lw_42 L M (F_X11_house (some 2) M) (F_X12_house (some 175)) := by
  obtain ⟨w, M1, M2, ⟨e1, B1, s1⟩, e2, R2, s2⟩ := lw8_house R.1
  obtain ⟨R8, e0, σ, nx, sz, P, I, rc, Rr, C, E⟩ := R
  have G := R8.2
  have hl := lw8_len R8.1.1.1
  obtain ⟨r1, er1, z1⟩ := S_X11_house R8.1.1.1.1.1.1 R8.1.1.1.2.1.1.1
  have x1 := o_eq er1 e1
  subst x1
  obtain ⟨r2, er2, z2⟩ := S_X12_house B1.1.1.2
  have x2 := o_eq er2 e2
  subst x2
  have f2 := z2.2
  obtain ⟨⟨n1, n2⟩, n4⟩ := lw_n R8.1.1
  have B : z_B M := ⟨R8.1.1.2.2.2, n4⟩
  have rr := lw_rc (q_Fx_of (a := 151) z1.2.2)
  dsimp only at rr f2
  have len1 : M.1.length ≤ M1.1.length := z1.2.2.1.1
  obtain ⟨r3, er3, ⟨fk, fl, fr, f6, fi⟩, c3⟩ := C_houseX (T := M) (e := M.1.length) (σ := hs_0 (M.2.1 181)) ⟨⟨R8.1.1.1.2.2.1, B⟩, R8.1.1.2.1.1, n2⟩ rfl hl (G_k2 G) ⟨⟨G_r0 G, G_r1 G⟩, G_r5 G, G_r7 G⟩ (G_k19 G) (k_kd G (by decide)) (k_rf G (by decide)) (k_rf G (by decide)) (k_LS_of G (by decide)) (k_LS_of G (by decide)) (fun k hk => if_pos hk)
  have x3 := o_eq er3 e1
  subst x3
  obtain ⟨r4, er4, _, c4⟩ := E_houseX (T := M) (M := M1) B B1.1.1.2 (rr 176 (by decide)) (by unfold n_s; rw [rr 175 (by decide)])
  have x4 := o_eq er4 e2
  subst x4
  rw [rr 181 (by decide)] at c4
  dsimp only at fk fl fr f6 fi c3 c4
  have E1 := w_E_c E rr
  refine ⟨w, M1, M2, ⟨e1, B1, s1⟩, e2, ⟨R2, ?_⟩, s2⟩
  have hl1 := lw8_len B1
  cases hit : hs_text M (hs_0 (M.2.1 181)) with
  | inl er =>
    rw [hit] at c3 c4
    obtain ⟨_, c11, c9, c19⟩ := c3
    obtain ⟨_, d185, d25⟩ := c4
    have F : w_F (fun i => w_Nr i ∨ i = 136 ∨ (143 ≤ i ∧ i ≤ 147)) M M1 := by
      refine ⟨⟨len1, fun i hi => fk i hi⟩, fun i hi hN => ⟨funext (fun k => ?_), funext (fun k => ?_)⟩⟩
      · by_cases h9 : 9 ≤ i ∧ i ≤ 13
        · exact c9 i k h9.1 h9.2
        · by_cases h19 : i = 19 ∧ k = 2
          · rw [h19.1, h19.2]
            exact c19
          · exact fi i hi k (by unfold z_W; unfold w_Nr at hN; omega) (by omega) h9 h19
      · by_cases h2 : i = 2 ∧ k = 11
        · rw [h2.1, h2.2]
          exact c11
        · exact fr i hi k (by omega) h2
    have C1 := w_C_F C hl F (congrFun (F.2 2 (by omega) (by unfold w_Nr; omega)).2 11) (congrFun (F.2 2 (by omega) (by unfold w_Nr; omega)).1 12) (fun i z => by unfold w_Nr at z; omega)
    refine ⟨e0, σ, nx, sz, P, I, rc, Rr, w_C_r C1 hl1 f2, w_E_r2 E1 f2 (by decide) (by rw [funext d185]; exact E1.1.1.1) (by rw [d25]; exact E1.1.1.2) (Nat.le_refl _)⟩
  | inr y =>
    rw [hit] at c3 c4
    obtain ⟨⟨_, c11⟩, ⟨cLE, cE⟩, ⟨c5, cS⟩, c19⟩ := c3
    obtain ⟨⟨_, d185⟩, d25⟩ := c4
    obtain ⟨⟨V, ⟨v4, v5⟩, Qc, Qd⟩, y0⟩ := hs_text_V hit
    have F : w_F (fun i => w_Nr i ∨ i = 136 ∨ (143 ≤ i ∧ i ≤ 147) ∨ (9 ≤ i ∧ i ≤ 13) ∨ i = 19 ∨ i = 2) M M1 := by
      refine ⟨⟨len1, fun i hi => fk i hi⟩, fun i hi hN => ⟨funext (fun k => ?_), funext (fun k => ?_)⟩⟩
      · exact fi i hi k (by unfold z_W; unfold w_Nr at hN; omega) (by omega) (by omega) (by omega)
      · exact fr i hi k (by omega) (by omega)
    have R21 : k_G M1 := lw8_c R8.1.1.1 G z1.2.2
    have X1 : w_X M1 9 M.1.length y.2 := by
      refine ⟨⟨⟨⟨cLE, k_LS_of R21 (by decide)⟩, ⟨cE, cS⟩, V⟩, Or.inr (by omega)⟩, ?_, ?_⟩
      · rw [c5, y0, if_pos (by decide)]
      · unfold s_Q
        rw [v4]
        exact ⟨by decide, v5, Qc, Qd⟩
    have i12 : M1.2.1 2 12 = M.2.1 2 12 := fi 2 (by omega) 12 (by unfold z_W; omega) (by omega) (by omega) (by omega)
    have i191 : M1.2.1 19 1 = M.2.1 19 1 := fi 19 (by omega) 1 (by unfold z_W; omega) (by omega) (by omega) (by omega)
    have C1 : w_C M1 M.1.length y.2 nx 0 P I rc Rr := by
      refine ⟨⟨⟨c11, X1⟩, ⟨⟨by rw [i191]; exact C.1.2.1.1.1, by rw [c19]; rfl⟩, C.1.2.1.2.1, by omega⟩, fun i hi => absurd hi (Nat.not_lt_zero _)⟩, w_Ci_F C.2.1 hl F (fun i z => by unfold w_Nr at z; omega), w_Cr_F C.2.2 hl F i12 (fun i z => by unfold w_Nr at z; omega)⟩
    refine ⟨M.1.length, M2.2.1 185, nx, 0, P, I, rc, Rr, w_C_congr (w_C_r C1 hl1 f2) d185, w_E_r2 E1 f2 (by decide) rfl (by rw [d25]; rfl) (Nat.zero_le _)⟩
theorem k_rl_F {N : Nat → Prop} {M M' : gM} {j js jm : Nat} {o : List (Nat × Int32)} {ms : List (Nat × Nat × Nat)} (K : k_rl M j js jm o ms) (f : w_F N M M') (a : 196 < j ∧ 196 < js ∧ 196 < jm) (h1 : ∀ i, N i → i < 197) : k_rl M' j js jm o ms := by
  have lj : j < M.1.length := q_kl (by rw [K.1.1]; decide)
  have ljs : js < M.1.length := q_kl (by rw [K.2.1.1.1]; show 20 < 90; decide)
  have ljm : jm < M.1.length := q_kl (by rw [K.2.1.1.2]; show 20 < 90; decide)
  have no : ∀ i, 196 < i → ¬ N i := fun i hi z => by have := h1 _ z; omega
  unfold k_rl at K ⊢
  rw [f.1.2 j lj, f.1.2 js ljs, f.1.2 jm ljm, (f.2 j lj (no j a.1)).2, (f.2 js ljs (no js a.2.1)).1, (f.2 jm ljm (no jm a.2.2)).1]
  exact K
theorem lw9_rule {L : Nat} {M : gM} (R : lw9 L M) : lw_42 L M (F_X11_rule (some 2) M) (F_X12_rule (some 175)) := by
  obtain ⟨w, M1, M2, ⟨e1, B1, s1⟩, e2, R2, s2⟩ := lw8_rule R.1
  obtain ⟨R8, e0, σ, nx, sz, P, I, rc, Rr, C, E⟩ := R
  have G := R8.2
  have hl := lw8_len R8.1.1.1
  refine ⟨w, M1, M2, ⟨e1, B1, s1⟩, e2, ⟨R2, ?_⟩, s2⟩
  have rc1 : (M.2.1 2 12).toInt = (rc : Int) := C.2.2.1
  have H0 := R8.1.1.1.1.1.2
  have r6 : rc ≤ 6 := by
    have := (H0.2.1 175 (by decide) 2).2
    have q : (y_tI 175 2).2 = 6 := rfl
    have := E.2.2.1
    omega
  obtain ⟨r1, er1, z1⟩ := S_X11_rule R8.1.1.1.1.1.1 R8.1.1.1.2.1.1.1
  have x1 := o_eq er1 e1
  subst x1
  obtain ⟨r2, er2, z2⟩ := S_X12_rule B1.1.1.2 B1.1.2
  have x2 := o_eq er2 e2
  subst x2
  have f2 := z2.1.2
  have rr := lw_rc (q_Fx_of (a := 151) z1.2.2)
  dsimp only at rr f2
  have len1 : M.1.length ≤ M1.1.length := z1.2.2.1.1
  have hl1 := lw8_len B1
  have E1 := w_E_c E rr
  by_cases c6 : rc = 6
  · obtain ⟨r5, e5, er5⟩ := C_rule6 R8.1.1.1.1.1.1 R8.1.1.1.2.1.1.1 (by omega)
    subst er5
    have x5 := o_eq e5 e1
    cases x5
    have y5 := E_rule6 (M := M) H0 (by have := E.2.2.1; omega)
    have x6 := o_eq y5 e2
    cases x6
    exact ⟨e0, σ, nx, sz, P, I, rc, Rr, C, E⟩
  · obtain ⟨⟨n1, n2⟩, n4⟩ := lw_n R8.1.1
    have B : z_B M := ⟨R8.1.1.2.2.2, n4⟩
    obtain ⟨r3, er3, c3⟩ := C_ruleX (T := M) G hl ⟨⟨R8.1.1.1.2.2.1, B⟩, R8.1.1.2.1.1, n2⟩ rc1 (by omega)
    have x3 := o_eq er3 e1
    subst x3
    obtain ⟨r4, er4, ⟨g177, g179, g180⟩, c4⟩ := E_ruleM (T := M) (M := M1) B B1.1.1.2 (rr 176 (by decide)) (by unfold n_s; rw [rr 175 (by decide)]) E1.2.2.1 (by omega)
    have x4 := o_eq er4 e2
    subst x4
    dsimp only at c3 c4 g177 g179 g180
    -- the elder RULES of the reference
    have old : ∀ t, t < rc → r_rl M2 t (Rr t).1 (Rr t).2 := by
      intro t ht
      obtain ⟨⟨a1, a2⟩, ⟨a3, a4, a5⟩, a6⟩ := E1.2.2.2 t ht
      refine ⟨⟨by rw [g180 t (by omega)]; exact a1, r_K_c (fun q h1 h2 => g179 q (by omega)) a2⟩, ⟨m_L_f a3 (fun j _ hj => g177 _ (by omega)), a4, a5⟩, a6⟩
    have e187 := fun q => y_fa (i := 187) f2 (by decide) (by decide) q
    have e193 := fun q => y_fa (i := 193) f2 (by decide) (by decide) q
    have e185 : M2.2.1 185 = σ := (funext (fun q => y_fa (i := 185) f2 (by decide) (by decide) q)).trans E1.1.1.1
    have e25 : (M2.2.1 175 25).toInt = (sz : Int) := by rw [y_fk (i := 175) (k := 25) f2 (by decide)]; exact E1.1.1.2
    have P2 : ∀ i, i < sz → ∀ j, j < 157 → M2.2.1 187 (157 * i + j) = P i j := fun i hi j hj => (e187 _).trans (E1.1.2 i hi j hj)
    have I2 : ∀ k, k < 4 → ∀ j, j < 157 → M2.2.1 193 (157 * k + j) = I k j := fun k hk j hj => (e193 _).trans (E1.2.1 k hk j hj)
    have same2 : M2.2.1 2 12 = M2.2.1 175 2 := R2.1.1.2.2.1
    have m12 : M2.2.1 2 12 = M1.2.1 2 12 := by rw [(f2.2.2 2 (by decide)).1]
    cases hit : s_text M with
    | inl er =>
      rw [hit] at c3
      have i12 : M1.2.1 2 12 = M.2.1 2 12 := congrFun (w_FN c3 hl (by unfold w_Nr; omega)).1 12
      have C1 := w_C_F C hl c3 (congrFun (w_FN c3 hl (by unfold w_Nr; omega)).2 11) i12 (fun i z => by unfold w_Nr at z; omega)
      refine ⟨e0, σ, nx, sz, P, I, rc, Rr, w_C_r C1 hl1 f2, ⟨⟨e185, e25⟩, P2⟩, I2, ?_, old⟩
      rw [← same2, m12, i12]
      exact rc1
    | inr yms =>
      obtain ⟨y, ms⟩ := yms
      rw [hit] at c3 c4
      obtain ⟨⟨Ma, Fa, Fb, la⟩, ⟨c11, c12⟩, c3t, j, js, jm, c3n, a, K⟩ := c3
      obtain ⟨⟨o1, o2⟩, o3⟩ := c4
      obtain ⟨RR, ms1, ms12⟩ := m_text hit
      have F : w_F (fun i => w_Nr i ∨ i = 2 ∨ i = 3) M M1 := w_F_t (w_F_w Fa (fun i h => Or.inl h)) (w_F_w Fb (fun i h => Or.inr h))
      have wh := C.1.1.2.1.2
      obtain ⟨Rn, hRn⟩ : ∃ Rn : Nat → List (Nat × Int32) × List (Nat × Nat × Nat), Rn = fun t => if t = rc then (y.2.2, ms) else Rr t := ⟨_, rfl⟩
      have Rne : Rn rc = (y.2.2, ms) := by rw [hRn]; exact if_pos rfl
      have Rno : ∀ t, t ≠ rc → Rn t = Rr t := fun t ht => by rw [hRn]; exact if_neg ht
      have C1 : w_C M1 e0 σ nx sz P I (rc + 1) Rn := by
        refine ⟨⟨⟨by rw [c11]; exact C.1.1.1, w_X_F C.1.1.2 F (fun j a b z => by unfold w_Nr at z; omega) (fun j a b z => by unfold w_Nr at z; unfold w_h at wh; omega)⟩, w_Cp_F C.1.2 hl wh F (fun i z => by unfold w_Nr at z; omega)⟩, w_Ci_F C.2.1 hl F (fun i z => by unfold w_Nr at z; omega), c12, fun t ht => ?_⟩
        by_cases ct : t = rc
        · subst ct
          rw [Rne]
          exact ⟨j, js, jm, c3n, a, K⟩
        · rw [Rno t ct, c3t t ct]
          obtain ⟨j', js', jm', q1, q2, q3⟩ := C.2.2.2 t (by omega)
          exact ⟨j', js', jm', q1, q2, k_rl_F q3 F q2 (fun i z => by unfold w_Nr at z; omega)⟩
      refine ⟨e0, σ, nx, sz, P, I, rc + 1, Rn, w_C_r C1 hl1 f2, ⟨⟨e185, e25⟩, P2⟩, I2, ?_, fun t ht => ?_⟩
      · rw [← same2, m12]
        exact c12
      · by_cases ct : t = rc
        · subst ct
          rw [Rne]
          have K2 := K.2.2.1.2.1
          exact ⟨⟨o3, o2⟩, ⟨m_r_O o1, K2, ms12⟩, RR⟩
        · rw [Rno t ct]
          exact old t (by omega)
def f_y9 : Bool := ((IC_509 19 1 == 0 && IC_509 19 2 == 0) && (IC_509 2 12 == 0 && (IC_509 175 2 == 0 && IC_509 175 25 == 0))) && ((List.range 6).all (fun k => IC_509 125 (5 + k) == 0) && ((List.range 3).all (fun k => IC_509 9 (4 + k) == 0) && (List.range 4).all (fun k => RC_510 (151 + 6 * k) 0 == some (152 + 6 * k) && RC_510 (151 + 6 * k) 1 == none))) && ((RC_510 2 11 == some 125 && f_K 125 == (1, 0)) && (List.range 5).all (fun k => f_K (126 + k) == (20, 7) && RC_510 125 k == some (126 + k)))
set_option maxRecDepth 100000 in
theorem f_y9_ok : f_y9 = true := by decide +kernel
theorem lw9_first (L : Nat) (xs : Nat → Int32) : lw9 L (g_Mc L xs) := by
  have h := f_y9_ok
  unfold f_y9 at h
  simp only [Bool.and_eq_true, beq_iff_eq] at h
  obtain ⟨⟨⟨⟨h1, h2⟩, h3, h4, h5⟩, h6, h7, h8⟩, ⟨h9, h10⟩, h11⟩ := h
  have i : ∀ {a b : Nat}, a ≠ 0 → (g_Mc L xs).2.1 a b = IC_509 a b := fun h => congrFun (II_510 L xs _ h) _
  have r : ∀ {a b : Nat}, (g_Mc L xs).2.2.2 a b = RC_510 a b := fun {a b} => congrFun (congrFun (RR_510 L xs) a) b
  have R8 := lw8_first L xs
  have G := R8.2
  have z185 : ∀ k, (g_Mc L xs).2.1 185 k = 0 := f_z0 (i := 185) (by decide) (by decide)
  have z0 : (0 : Int32).toInt = 0 := rfl
  have i125 : ∀ k, 5 ≤ k → k < 11 → (g_Mc L xs).2.1 125 k = 0 := fun k a b => by
    have := List.all_eq_true.mp h6 (k - 5) (List.mem_range.mpr (by omega))
    rw [beq_iff_eq] at this
    rw [i (by decide), show k = 5 + (k - 5) by omega]
    exact this
  have i9 : ∀ k, 4 ≤ k → k < 7 → (g_Mc L xs).2.1 9 k = 0 := fun k a b => by
    have := List.all_eq_true.mp h7 (k - 4) (List.mem_range.mpr (by omega))
    rw [beq_iff_eq] at this
    rw [i (by decide), show k = 4 + (k - 4) by omega]
    exact this
  have m0 : hs_m ((g_Mc L xs).2.1 185) = 0 := by
    unfold hs_m
    rw [z185 2]
    rfl
  refine ⟨R8, 125, (g_Mc L xs).2.1 185, 0, 0, fun _ _ => 0, fun k j => (g_Mc L xs).2.1 193 (157 * k + j), 0, fun _ => ([], []), ⟨⟨⟨by rw [r]; exact h9, ⟨⟨⟨⟨?_, ?_⟩, k_LS_of G (by decide)⟩, ⟨?_, ?_⟩, ?_⟩, Or.inl rfl⟩, ?_, ?_⟩, ⟨⟨by rw [i (by decide), h1]; rfl, by rw [i (by decide), h2]; rfl⟩, by decide, by decide⟩, fun k hk => absurd hk (Nat.not_lt_zero _)⟩, fun k hk => ?_, by rw [i (by decide), h3]; rfl, fun t ht => absurd ht (Nat.not_lt_zero _)⟩, ⟨⟨rfl, by rw [i (by decide), h5]; rfl⟩, fun k hk => absurd hk (Nat.not_lt_zero _)⟩, fun k _ j _ => rfl, by rw [i (by decide), h4]; rfl, fun t ht => absurd ht (Nat.not_lt_zero _)⟩
  · exact (G.1 125 (by decide) (by decide)).trans h10
  · intro k hk
    have := List.all_eq_true.mp h11 k (List.mem_range.mpr hk)
    simp only [Bool.and_eq_true, beq_iff_eq] at this
    rw [show 125 + 1 + k = 126 + k by omega]
    exact ⟨(G.1 (126 + k) (by omega) (by omega)).trans this.1, by rw [r]; exact this.2⟩
  · refine ⟨⟨⟨?_, ?_⟩, ?_⟩, ⟨?_, ?_⟩, fun t ht => ?_, fun t ht => ?_⟩
    · rw [i125 6 (by decide) (by decide), z185]
    · rw [i125 7 (by decide) (by decide), z185]
    · rw [i125 8 (by decide) (by decide), z185]
    · rw [i125 9 (by decide) (by decide), z185]
    · rw [i125 10 (by decide) (by decide), z185]
    · rw [z185] at ht
      omega
    · rw [z185] at ht
      omega
  · refine ⟨⟨⟨?_, ?_⟩, ?_⟩, fun t ht => ?_, fun t ht => ?_⟩
    · rw [i9 4 (by decide) (by decide), z185]
    · rw [i9 5 (by decide) (by decide), z185]
    · rw [i9 6 (by decide) (by decide), z185]
    · rw [z185] at ht
      omega
    · rw [z185] at ht
      omega
  · refine ⟨by rw [z185, z185]; decide, fun a t ha _ => ?_, fun t ht => ?_, fun a ha => ?_⟩
    · rw [z185] at ha
      omega
    · rw [z185] at ht
      omega
    · rw [z185] at ha
      omega
  · rw [i125 5 (by decide) (by decide), z185]
    rfl
  · have n0 : hs_n ((g_Mc L xs).2.1 185) = 0 := by
      unfold hs_n
      rw [z185 1]
      rfl
    refine ⟨by rw [z185]; decide, by rw [z185]; decide, ⟨by omega, fun a b ha _ => by omega⟩, by omega, fun t ht => by omega⟩
  · have := List.all_eq_true.mp h8 k (List.mem_range.mpr hk)
    simp only [Bool.and_eq_true, beq_iff_eq] at this
    rw [r, r, this.1, this.2]
    exact ⟨rfl, fun e he => by cases he⟩
