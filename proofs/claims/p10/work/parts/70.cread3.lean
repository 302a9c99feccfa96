/-! the class's rule(): what it answers -/
theorem Ok_and {α : Type} {o : Option α} {P Q : α → Prop} (h1 : Ok o P) (h2 : Ok o Q) : Ok o (fun a => P a ∧ Q a) := by
  obtain ⟨a, e, p⟩ := h1
  obtain ⟨b, e2, q⟩ := h2
  rw [e] at e2
  cases e2
  exact ⟨a, e, p, q⟩
theorem C_goesOn {T M : gM} {p : Nat} (C : z_C T M p) (f0 : M.2.1 131 7 = 0) : Ok (F_X9_goesOn (some 131) M) (fun r => (z_57 M r.2 ∧ ∃ q, z_C T r.2 q) ∧ (k_kind T p = 256 → r.1 = 0 ∧ r.2 = M) ∧ (k_kind T p = 59 → r.1 = 1 ∧ z_C T r.2 (k_go T p) ∧ r.2.2.1 131 7 = 0) ∧ (k_kind T p ≠ 256 → k_kind T p ≠ 59 → r.1 = 0 ∧ (r.2.2.1 131 7).toInt = ((1 + 8 * p + 0 : Nat) : Int))) := by
  have k9 := z_k131 C
  have z256 : (256 : Int32).toInt = 256 := rfl
  have z59 : (59 : Int32).toInt = 59 := rfl
  delta F_X9_goesOn F_X9_goesOn_b0
  rw [t_gO k9, Option.bind_some, C_faulty k9, Option.bind_some, if_pos f0, if_pos rfl]
  refine Ok_b (C_kind C) (fun v3 h3 => ?_)
  refine Ok_i (fun c => ?_) (fun c => ?_)
  · have e : k_kind T p = 256 := by rw [← h3, c]; rfl
    exact Ok_s ⟨⟨z_57r, p, C⟩, fun _ => ⟨rfl, rfl⟩, fun h => by omega, fun h => absurd e h⟩
  · have e : k_kind T p ≠ 256 := fun h => c (Int32.toInt_inj.mp (by rw [h3, z256]; exact h))
    delta F_X9_goesOn_b19
    rw [t_gO k9, Option.bind_some]
    refine Ok_b (C_expect (l := 59) C) (fun M2 w => ?_)
    obtain ⟨C2, f57, w1, w2, w3⟩ := w
    have k92 := z_k131 C2
    rw [t_gC k92, Option.bind_some, C_faulty k92, Option.bind_some]
    by_cases c59 : k_kind T p = 59
    · have e7 : M2.2.1 131 7 = 0 := by rw [w1 c59]; exact f0
      rw [if_pos e7, if_pos rfl]
      exact Ok_s ⟨⟨f57, _, C2⟩, fun h => absurd h e, fun _ => ⟨rfl, C2, e7⟩, fun _ h => absurd c59 h⟩
    · have e7 := w3 f0 c59
      have n7 : ¬ M2.2.1 131 7 = 0 := fun h => by rw [h] at e7; have z0 : (0 : Int32).toInt = 0 := rfl; omega
      rw [if_neg n7, if_neg (by decide)]
      exact Ok_s ⟨⟨f57, _, C2⟩, fun h => absurd h e, fun h => absurd h c59, fun _ _ => ⟨rfl, e7⟩⟩
theorem C_goesOnY {T M : gM} {e : Nat} (Y : c_Y T M e) : Ok (F_X9_goesOn (some 131) M) (fun r => r.1 = 0 ∧ z_57 M r.2 ∧ c_Y T r.2 e) := by
  obtain ⟨p, C⟩ := Y.1
  have k9 := z_k131 C
  have fn := c_Yn Y
  delta F_X9_goesOn F_X9_goesOn_b0
  rw [t_gO k9, Option.bind_some, C_faulty k9, Option.bind_some, if_neg fn, if_neg (by decide)]
  delta F_X9_goesOn_b19
  rw [t_gO k9, Option.bind_some]
  refine Ok_b (C_expect (l := 59) C) (fun M2 w => ?_)
  obtain ⟨C2, f57, w1, w2, w3⟩ := w
  have k92 := z_k131 C2
  have Y2 := c_YY Y f57 C2 (w2 fn)
  rw [t_gC k92, Option.bind_some, C_faulty k92, Option.bind_some, if_neg (c_Yn Y2), if_neg (by decide)]
  exact Ok_s ⟨rfl, f57, Y2⟩
def c_T (T : gM) (r : Nat ⊕ (sS × List (Nat × Nat × Nat))) (M' : gM) : Prop := match r with
  | .inl e => c_V T M' e
  | .inr (y, ms) => c_Z T M' y ms ∧ ms.length ≤ 12
theorem C_read_end {n : Nat} {l2 : Int32} {M : gM} : F_X7_read_L26 (n + 1) (some 148) (0 : Int32) l2 M = F_X7_read_b55 (some 148) M := by
  show F_X7_read_b26 (F_X7_read_L26 n) (some 148) (0 : Int32) l2 M = _
  delta F_X7_read_b26
  by_cases c : (13 : Int32) < l2
  · rw [if_pos c]
  · rw [if_neg c, if_pos rfl]
theorem C_read_L26 {T : gM} : ∀ (n cl : Nat) {l2 : Int32} {M : gM} {x : sS} {ms : List (Nat × Nat × Nat)}, c_Z T M x ms → l2.toInt = (cl : Int) → cl = ms.length + 1 → cl ≤ 13 → 15 - cl < n → ∃ Mk, F_X7_read_L26 n (some 148) (1 : Int32) l2 M = F_X7_read_b55 (some 148) Mk ∧ z_Fr M Mk ∧ c_T T (s_tl T (15 - cl) cl x ms) Mk := by
  intro n
  induction n with
  | zero => intro cl l2 M x ms Z h2 hm hc hn; omega
  | succ n ih =>
    intro cl l2 M x ms Z h2 hm hc hn
    have C := Z.1.1.1
    obtain ⟨⟨⟨k1, k2⟩, _⟩, ⟨⟨r0, r1⟩, _⟩⟩ := z_148 (z_CL C)
    have z13 : (13 : Int32).toInt = 13 := rfl
    have e : F_X7_read_L26 (n + 1) (some 148) (1 : Int32) l2 M = (F_X7_readClause (some 148) l2 M).bind fun M2 => (gR 7 M2 (some 148) 0).bind fun v3 => (gO 9 M2 v3).bind fun i4 => (F_X9_goesOn (some i4) M2).bind fun (v5, M6) => F_X7_read_L26 n (some 148) v5 (l2 + 1) M6 := by
      show F_X7_read_b26 (F_X7_read_L26 n) (some 148) (1 : Int32) l2 M = _
      delta F_X7_read_b26
      rw [if_neg (fun z => by have := i_lt z; omega), if_neg (by decide), t_gO k1, Option.bind_some]
    obtain ⟨M2, e2, f2, q2⟩ := C_readClause Z h2 hm hc
    rw [e, e2, Option.bind_some]
    obtain ⟨n', rfl⟩ : ∃ m, n = m + 1 := ⟨n - 1, by omega⟩
    rw [show 15 - cl = (14 - cl) + 1 by omega]
    unfold s_tl
    cases hit : s_cl T cl x with
    | inl er =>
      rw [hit] at q2
      obtain ⟨Y, nm, h4, hn4⟩ := q2
      obtain ⟨p2, C2⟩ := Y.1
      obtain ⟨⟨⟨k1, k2⟩, _⟩, ⟨⟨r0, r1⟩, _⟩⟩ := z_148 (z_CL C2)
      rw [t_gR k1 r0, Option.bind_some, t_gO (z_k131 C2), Option.bind_some]
      obtain ⟨⟨v5, M6⟩, e6, g1, g2, g3⟩ := C_goesOnY Y
      dsimp only at g1 g2 g3
      rw [e6, Option.bind_some]
      dsimp only
      rw [g1, C_read_end]
      exact ⟨M6, rfl, z_tr f2 g2.1, g3, nm, by rw [g2.2 148 4 (by omega)]; exact h4, hn4⟩
    | inr ym =>
      obtain ⟨y, m⟩ := ym
      rw [hit] at q2
      obtain ⟨X2, h4, hK⟩ := q2
      have C2 := X2.1.1
      obtain ⟨⟨⟨k1, k2⟩, _⟩, ⟨⟨r0, r1⟩, _⟩⟩ := z_148 (z_CL C2)
      have cl12 : cl ≤ 12 := by
        rcases Nat.lt_or_ge 12 cl with h | h
        · exfalso
          unfold s_cl at hit
          by_cases c : k_kind T x.1 ≠ 278
          · rw [if_pos c] at hit
            cases hit
          · rw [if_neg c, if_pos h] at hit
            cases hit
        · exact h
      rw [t_gR k1 r0, Option.bind_some, t_gO (z_k131 C2), Option.bind_some]
      obtain ⟨⟨v5, M6⟩, e6, ⟨g1, q6, gC⟩, ga, gb, gc⟩ := C_goesOn C2 X2.1.2
      dsimp only at g1 gC ga gb gc
      rw [e6, Option.bind_some]
      dsimp only
      by_cases c256 : k_kind T y.1 = 256
      · obtain ⟨a1, a2⟩ := ga c256
        rw [if_pos c256, a1, a2, C_read_end]
        refine ⟨M2, rfl, f2, ⟨X2, h4, hK⟩, ?_⟩
        show ms.length + 1 ≤ 12
        omega
      · rw [if_neg c256]
        by_cases c59 : k_kind T y.1 = 59
        · obtain ⟨a1, a2, a3⟩ := gb c59
          have kg := k_go_r (k_kind_lt (T := T) (p := y.1) c256)
          rw [if_pos c59, a1]
          have Z6 : c_Z T M6 (k_go T y.1, y.2) (m :: ms) := ⟨c_X57 X2 g1 a2 a3 (by have := X2.2.2.2; omega), by rw [g1.2 148 4 (by omega)]; exact h4, c_K_c (fun q _ => g1.2 150 q (by omega)) hK⟩
          obtain ⟨Mk, b1, b2, b3⟩ := ih (cl + 1) (l2 := l2 + 1) Z6 (by rw [show (l2 + 1 : Int32) = Int32.ofNat (cl + 1) from n_inc h2 (by omega), i_ofNat (by omega)]) (by simp; omega) (by omega) (by omega)
          rw [show 15 - (cl + 1) = 14 - cl by omega] at b3
          exact ⟨Mk, b1, z_tr f2 (z_tr g1.1 b2), b3⟩
        · obtain ⟨a1, a2⟩ := gc c256 c59
          rw [if_neg c59, a1, C_read_end]
          exact ⟨M6, rfl, z_tr f2 g1.1, c_Y57 X2 g1 gC a2 (by omega), 3 * (m :: ms).length, by rw [g1.2 148 4 (by omega)]; exact h4, by simp; omega⟩
theorem C_read {T M : gM} (Z : z_T T M) : ∃ Mk, F_X7_read (some 148) M = F_X7_read_b55 (some 148) Mk ∧ z_Fr M Mk ∧ c_T T (s_text T) Mk := by
  obtain ⟨⟨⟨k1, k2⟩, _⟩, ⟨⟨r0, r1⟩, _⟩⟩ := z_148 Z.1.1
  have k9 : g_k M 131 = (9, 0) := Z.1.1.1.1.1.1
  obtain ⟨M3, e3, f3, ⟨N, hE, hP⟩, h5, h7⟩ := C_split Z
  have Z3 := z_Tm Z f3
  have C3 : z_C T M3 (n_sk T 0) := ⟨Z3, N, 0, hE, hP, Nat.zero_le _, by rw [h5]; rfl, rfl⟩
  delta F_X7_read F_X7_read_b0
  rw [t_gR k1 r0, Option.bind_some, t_gO k9, Option.bind_some, e3, Option.bind_some]
  have k13 := (z_148 (z_CL C3)).1.1.1
  rw [t_pI k13, Option.bind_some]
  obtain ⟨M4, e4⟩ : ∃ M4, M4 = mI M3 148 3 (0 : Int32) := ⟨_, rfl⟩
  rw [← e4]
  have k14 : g_k M4 148 = (7, 0) := by rw [e4]; exact k13
  rw [t_pI k14, Option.bind_some]
  obtain ⟨M5, e5⟩ : ∃ M5, M5 = mI M4 148 4 (0 : Int32) := ⟨_, rfl⟩
  rw [← e5]
  have k15 : g_k M5 148 = (7, 0) := by rw [e5]; exact k14
  rw [t_pI k15, Option.bind_some]
  obtain ⟨M6, e6⟩ : ∃ M6, M6 = mI M5 148 5 (0 : Int32) := ⟨_, rfl⟩
  rw [← e6]
  have f6 : z_Fr M3 M6 := by
    rw [e6]
    refine z_tr ?_ (z_up (by unfold z_W; omega))
    rw [e5]
    refine z_tr ?_ (z_up (by unfold z_W; omega))
    rw [e4]
    exact z_up (by unfold z_W; omega)
  have C6 : z_C T M6 (n_sk T 0) := by
    rw [e6]
    refine z_Cmi ?_ (by unfold z_W; omega) (Or.inr (Or.inl rfl))
    rw [e5]
    refine z_Cmi ?_ (by unfold z_W; omega) (Or.inr (Or.inl rfl))
    rw [e4]
    exact z_Cmi C3 (by unfold z_W; omega) (Or.inr (Or.inl rfl))
  have a7 : M6.2.1 131 7 = 0 := by rw [e6, mI_ne (Or.inl (by decide)), e5, mI_ne (Or.inl (by decide)), e4, mI_ne (Or.inl (by decide)), h7]
  have b5 : M6.2.1 148 5 = 0 := by rw [e6]; exact y_mI1
  have b4 : M6.2.1 148 4 = 0 := by rw [e6, mI_ne (Or.inr (by decide)), e5]; exact y_mI1
  have b3 : M6.2.1 148 3 = 0 := by rw [e6, mI_ne (Or.inr (by decide)), e5, mI_ne (Or.inr (by decide)), e4]; exact y_mI1
  have Z6 : c_Z T M6 (n_sk T 0, 0, []) [] := ⟨⟨⟨C6, a7⟩, ⟨by rw [b5]; rfl, Nat.zero_le _⟩, ⟨by rw [b3]; rfl, trivial⟩, Nat.zero_le _⟩, by rw [b4]; rfl, trivial⟩
  obtain ⟨Mk, c1, c2, c3⟩ := C_read_L26 g_fuel 1 (l2 := (1 : Int32)) Z6 rfl rfl (by decide) (by have : g_fuel = 1000000000 := rfl; omega)
  exact ⟨Mk, c1, z_tr f3 (z_tr f6 c2), c3⟩
/-- the class's cells keep their ranges -/
theorem z_qHT {M M' : gM} (H : q_HT 0 M) (L : z_L M) (f : z_Fr M M') (h1 : (0 ≤ (M'.2.1 131 4).toInt ∧ (M'.2.1 131 4).toInt ≤ 401) ∧ (0 ≤ (M'.2.1 131 5).toInt ∧ (M'.2.1 131 5).toInt ≤ 401)) (h2 : (0 ≤ (M'.2.1 148 3).toInt ∧ (M'.2.1 148 3).toInt ≤ 400) ∧ (0 ≤ (M'.2.1 148 4).toInt ∧ (M'.2.1 148 4).toInt ≤ 36)) : q_HT 0 M' := by
  have hk : ∀ i, g_k M' i = g_k M i := fun i => q_k_of f.1.1
  obtain ⟨⟨⟨⟨k1, k2⟩, ⟨k3, k4⟩, k5⟩, ⟨k6, k7⟩, k8⟩, _⟩ := L
  refine ⟨⟨by rw [f.1.1]; exact H.1.1, by rw [hk]; exact H.1.2⟩, fun i hi hx k => ?_⟩
  have h9 := H.2 i hi hx k
  rw [hk, f.1.2.2]
  refine ⟨q_okR_mo q_tR_kd (fun j q K _ => ⟨K.1, by rw [hk]; exact K.2⟩) h9.1, ?_⟩
  have arr : ∀ {n : Nat}, g_k M i = (20, n) → (q_tI (g_k M i) k).1 ≤ (M'.2.1 i k).toInt ∧ (M'.2.1 i k).toInt ≤ (q_tI (g_k M i) k).2 := by
    intro n h
    rw [h, q_tI_full (by show 12 ≤ 20; decide)]
    exact i_rng _
  by_cases c : z_W i k
  · rcases c with ⟨e, c⟩ | (e | e | e) | ⟨e, c⟩ | e | e
    · subst e
      rw [k1]
      rcases c with e | e | e
      · subst e; exact h1.1
      · subst e; exact h1.2
      · subst e; exact i_rng _
    · subst e; exact arr k3
    · subst e; exact arr k4
    · subst e; exact arr k5
    · subst e
      rw [k6]
      rcases c with e | e | e
      · subst e; exact h2.1
      · subst e; exact h2.2
      · subst e; exact i_rng _
    · subst e; exact arr k7
    · subst e; exact arr k8
  · rw [f.2 i k c]
    exact h9.2
theorem z_C_r {T M : gM} {p : Nat} (C : z_C T M p) : (0 ≤ (M.2.1 131 4).toInt ∧ (M.2.1 131 4).toInt ≤ 401) ∧ (0 ≤ (M.2.1 131 5).toInt ∧ (M.2.1 131 5).toInt ≤ 401) := by
  have hs := z_Cs C
  obtain ⟨Z, N, j, hE, ⟨p1, p2⟩, hj, h5, hp⟩ := C
  have := z_E_le hE
  omega
/-- rule(): the number of the rule, or the FAULT -/
theorem C_rule {T M : gM} (H : q_HT 0 M) (K : q_Kd M 2 (11, 0)) (Z : z_T T M) (r2 : M.2.2.2 2 0 = some 131 ∧ M.2.2.2 2 2 = some 148) (h12 : (M.2.1 2 12).toInt ≠ 6) : Ok (F_X11_rule (some 2) M) (fun r => (r.2.2.1 131 6 = 0 ∧ r.2.2.1 132 = M.2.1 132) ∧ (match s_text T with
    | .inl e => (∃ w : Int32, r.1 = (-2 : Int32) - w ∧ w.toInt = (e : Int)) ∧ r.2.2.1 2 12 = M.2.1 2 12
    | .inr _ => r.1 = M.2.1 2 12 ∧ (r.2.2.1 2 12).toInt = (M.2.1 2 12).toInt + 1)) := by
  delta F_X11_rule F_X11_rule_b0
  refine d_gI (lo := 0) (hi := 6) H K (by decide) rfl (fun v1 q1 e1 => ?_)
  refine d_gR (q := (25, 6)) H K (by decide) rfl (fun v2 rr2 K2 => ?_)
  refine c_aN K2 (by decide) (by decide) (fun v3 e3 => ?_)
  refine Ok_t (Int32.lt_iff_toInt_lt.mpr (by rw [q1] at h12; omega)) ?_
  obtain ⟨Mk, c1, c2, c3⟩ := C_read Z
  refine c_gRs K r2.2 ?_
  have k148 := (z_148 Z.1.1).1.1.1
  rw [t_gO k148, Option.bind_some, c1]
  have Lk := z_Lm Z.1.1 c2
  have Kk : q_Kd Mk 2 (11, 0) := ⟨K.1, by rw [q_k_of c2.1.1]; exact K.2⟩
  have rk0 : Mk.2.2.2 2 0 = some 131 := by rw [c2.1.2.2]; exact r2.1
  have K148 : q_Kd Mk 148 (7, 0) := ⟨Or.inl (by decide), (z_148 Lk).1.1.1⟩
  have o12 : Mk.2.1 2 12 = M.2.1 2 12 := c2.2 2 12 (by unfold z_W; omega)
  have o132 : Mk.2.1 132 = M.2.1 132 := funext (fun k => c2.2 132 k (by unfold z_W; omega))
  have hl2 : 2 < Mk.1.length := q_kl (by rw [Kk.2]; decide)
  have K131 : g_k Mk 131 = (9, 0) := Lk.1.1.1.1
  have hl131 : 131 < Mk.1.length := q_kl (by rw [K131]; decide)
  have K132 : g_k Mk 132 = (22, 400) := Lk.1.1.1.2
  have hl132 : 132 < Mk.1.length := q_kl (by rw [K132]; decide)
  cases hit : s_text T with
  | inl e =>
    rw [hit] at c3
    obtain ⟨Y, nm, h4, hn4⟩ := c3
    obtain ⟨p, C⟩ := Y.1
    obtain ⟨⟨⟨k1, k2⟩, _⟩, ⟨⟨r0, r1⟩, _⟩⟩ := z_148 (z_CL C)
    have k9 := z_k131 C
    delta F_X7_read_b55
    rw [t_gR k1 r0, Option.bind_some, t_gO k9, Option.bind_some, C_faulty k9, Option.bind_some, if_neg (c_Yn Y), if_neg (by decide), Option.bind_some]
    dsimp only
    rw [t_gR Kk.2 rk0, Option.bind_some, t_pI k9, Option.bind_some]
    have g2 : g_k (mI Mk 131 6 (0 : Int32)) 2 = (11, 0) := Kk.2
    have g9 : g_k (mI Mk 131 6 (0 : Int32)) 131 = (9, 0) := k9
    rw [if_pos rfl, t_gR g2 rk0, Option.bind_some, t_gI g9, Option.bind_some]
    refine Ok_s ⟨⟨y_mI1, ?_⟩, ?_, ?_⟩
    · show (mI Mk 131 6 (0 : Int32)).2.1 132 = _
      rw [← o132]
      exact funext (fun k => mI_ne (Or.inl (by decide)))
    · exact ⟨_, rfl, by rw [mI_ne (Or.inr (by decide))]; exact Y.2.1⟩
    · show (mI Mk 131 6 (0 : Int32)).2.1 2 12 = _
      rw [mI_ne (Or.inl (by decide)), o12]
  | inr yms =>
    obtain ⟨y, ms⟩ := yms
    rw [hit] at c3
    obtain ⟨⟨X, h4, hK⟩, hms⟩ := c3
    have C := X.1.1
    have hz := z_Cs C
    have k9 := z_k131 C
    have hl := X.2.2.1.1
    have hle := X.2.2.2
    have Hk : q_HT 0 Mk := z_qHT H Z.1.1 c2 (z_C_r C) ⟨by omega, by omega⟩
    obtain ⟨⟨v6, M7⟩, e7, en, H7, f7⟩ := S_X7_read_b55 (b := q_ba) Hk K148
    dsimp only at en H7 f7
    have some6 : ∃ j, v6 = some j := by
      have e8 : F_X7_read_b55 (some 148) Mk = some (v6, M7) := e7
      unfold F_X7_read_b55 at e8
      obtain ⟨⟨⟨k1, k2⟩, _⟩, ⟨⟨r0, r1⟩, _⟩⟩ := z_148 (z_CL C)
      rw [t_gR k1 r0, Option.bind_some, t_gO k9, Option.bind_some, C_faulty k9, Option.bind_some, if_pos X.1.2, if_pos rfl] at e8
      obtain ⟨_, _, e8⟩ := g_bd e8
      obtain ⟨_, _, e8⟩ := g_bd e8
      obtain ⟨⟨_, _⟩, _, e8⟩ := g_bd e8
      dsimp only at e8
      obtain ⟨_, _, e8⟩ := g_bd e8
      obtain ⟨_, _, e8⟩ := g_bd e8
      obtain ⟨⟨_, _⟩, _, e8⟩ := g_bd e8
      dsimp only at e8
      obtain ⟨_, _, e8⟩ := g_bd e8
      cases e8
      exact ⟨_, rfl⟩
    obtain ⟨j6, ej⟩ := some6
    subst ej
    rw [e7, Option.bind_some]
    dsimp only
    have K7 := q_mo Kk (by decide) f7
    have g131 : g_k M7 131 = (9, 0) := by rw [f7.1.2 131 hl131]; exact K131
    have rk7 : M7.2.2.2 2 0 = some 131 := by rw [f7.2.2.2 2 hl2 0 (by rw [Kk.2]; rfl)]; exact rk0
    have o7 : M7.2.1 2 12 = M.2.1 2 12 := by rw [f7.2.2.1 2 hl2 12 (by rw [Kk.2]; rfl)]; exact o12
    have o7b : M7.2.1 132 = M.2.1 132 := by rw [← o132]; exact funext (fun k => f7.2.2.1 132 hl132 k (by rw [K132]; rfl))
    rw [t_gR K7.2 rk7, Option.bind_some, t_pI g131, Option.bind_some, if_neg (by simp)]
    have K9 : q_Kd (mI M7 131 6 (0 : Int32)) 2 (11, 0) := ⟨K7.1, K7.2⟩
    have K131' : q_Kd M7 131 (9, 0) := ⟨Or.inl (by decide), g131⟩
    obtain ⟨H9, f9⟩ := u_pI (b := q_bs) (k := 6) (v := (0 : Int32)) (lo := 0) (hi := 400) H7 K131' (by decide) rfl (by decide) (by decide)
    have a6 : (mI M7 131 6 (0 : Int32)).2.1 131 6 = 0 := y_mI1
    have o9 : (mI M7 131 6 (0 : Int32)).2.1 2 12 = M.2.1 2 12 := (mI_ne (Or.inl (by decide))).trans o7
    have o9b : (mI M7 131 6 (0 : Int32)).2.1 132 = M.2.1 132 := (funext (fun k => mI_ne (Or.inl (by decide)))).trans o7b
    have enn : ∃ i, (some j6 : Option Nat) = some i ∧ q_Kd M7 i (6, 0) := by
      rcases en with h | h
      · cases h
      · exact h
    obtain ⟨j, ej, Kj⟩ := enn
    cases ej
    have Kj9 := q_mo Kj (by decide) f9
    have hl131' : 131 < (mI M7 131 6 (0 : Int32)).1.length := q_kl (by show (g_k M7 131).1 < 90; rw [g131]; decide)
    have g131'' : g_k (mI M7 131 6 (0 : Int32)) 131 = (9, 0) := g131
    have g132'' : g_k (mI M7 131 6 (0 : Int32)) 132 = (22, 400) := by show g_k M7 132 = _; rw [f7.1.2 132 hl132]; exact K132
    have hl132' : 132 < (mI M7 131 6 (0 : Int32)).1.length := q_kl (by rw [g132'']; decide)
    generalize mI M7 131 6 (0 : Int32) = M9 at K9 H9 f9 a6 o9 o9b Kj9 hl131' g131'' g132'' hl132' ⊢
    refine d_gR (q := (25, 6)) H9 K9 (by decide) rfl (fun v10 r10 K10 => ?_)
    refine c_gIs K9 (o9.trans q1) (fun v11 e11 => ?_)
    have t11 := congrArg Int32.toInt e11
    refine c_sR25 (b := q_ba) H9 K10 Kj9 (by rw [q1] at h12; omega) (by rw [q1] at h12; omega) (fun M12 H12 f12 o12' => ?_)
    have Kc := q_mo K9 (by decide) f12
    have e12 : M12.2.1 2 12 = v1 := (congrFun (congrFun o12' _) 12).trans (o9.trans q1)
    refine c_gIs Kc e12 (fun v13 e13 => ?_)
    have t13 := congrArg Int32.toInt e13
    have a1 := i_addc (x := v13) (c := (1 : Int32)) (n := 1) rfl (by omega) (by omega)
    rw [t_pI Kc.2, Option.bind_some]
    have gd : g_k (mI M12 2 12 (v13 + (1 : Int32))) 2 = (11, 0) := Kc.2
    rw [t_gI gd, Option.bind_some, y_mI1]
    refine Ok_s ⟨⟨?_, ?_⟩, ?_, ?_⟩
    · show (mI M12 2 12 (v13 + (1 : Int32))).2.1 131 6 = 0
      rw [mI_ne (Or.inl (by decide)), congrFun (congrFun o12' 131) 6]
      exact a6
    · show (mI M12 2 12 (v13 + (1 : Int32))).2.1 132 = _
      rw [← o9b, ← congrFun o12' 132]
      exact funext (fun k => mI_ne (Or.inl (by decide)))
    · show v13 + (1 : Int32) - (1 : Int32) = _
      rw [q1]
      refine Int32.toInt_inj.mp ?_
      rw [i_subc (n := 1) rfl (by omega) (by omega)]
      omega
    · show ((mI M12 2 12 (v13 + (1 : Int32))).2.1 2 12).toInt = _
      rw [y_mI1, q1]
      omega
