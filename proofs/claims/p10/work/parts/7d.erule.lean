/-! the whole text, by the reference -/
theorem k_256 {T : gM} (B : z_B T) {p : Nat} : k_kind T p = 256 ↔ n_s T ≤ p := by
  constructor
  · intro h
    unfold k_kind at h
    by_cases c0 : n_s T ≤ p
    · exact c0
    rw [if_neg c0] at h
    by_cases cL : n_L T p = true
    · rw [if_pos cL] at h
      have := k_w_r (T := T) (p := p)
      omega
    rw [if_neg cL] at h
    by_cases cD : n_D T p = true
    · rw [if_pos cD] at h
      omega
    rw [if_neg cD] at h
    by_cases c2 : k_two T p = true
    · rw [if_pos c2] at h
      split at h <;> omega
    rw [if_neg c2, n_ca_r B (by omega)] at h
    have := B.1 p
    split at h <;> omega
  · intro h
    unfold k_kind
    rw [if_pos h]
theorem n_c_end {T : gM} (B : z_B T) {p : Nat} : n_c T p = -1 ↔ n_s T ≤ p := by
  have z : (-1 : Int32).toInt = -1 := rfl
  unfold n_c
  by_cases c : p < n_s T
  · rw [if_pos c]
    refine ⟨fun h => ?_, fun h => by omega⟩
    have h2 := congrArg Int32.toInt h
    rw [i_and255 (B.1 p).1 (B.1 p).2] at h2
    have := B.1 p
    split at h2 <;> omega
  · rw [if_neg c]
    exact ⟨fun _ => by omega, fun _ => rfl⟩
/-- a clause and its marks, or the clause alone -/
theorem s_c1_cl {T : gM} {cl : Nat} {x : sS} : s_c1 T cl x = (match s_cl T cl x with | .inl e => .inl e | .inr (y, _) => .inr y) := by
  unfold s_c1 s_cl
  by_cases c1 : k_kind T x.1 ≠ 278
  · rw [if_pos c1, if_pos c1]
  rw [if_neg c1, if_neg c1]
  by_cases c2 : 12 < cl
  · rw [if_pos c2, if_pos c2]
  rw [if_neg c2, if_neg c2]
  unfold s_fd
  cases s_sum T (k_go T x.1, x.2) with
  | inl e => rfl
  | inr y =>
    show (if k_kind T y.1 = 279 then s_J T 0 0 (k_go T y.1, y.2) else .inr y) = _
    dsimp only
    by_cases c3 : k_kind T y.1 = 279
    · rw [if_pos c3, if_pos c3]
      cases s_J T 0 0 (k_go T y.1, y.2) with
      | inl e => rfl
      | inr z => rfl
    · rw [if_neg c3, if_neg c3]
theorem E_clauseHere {T : gM} (B : z_B T) {t c : Nat} {M : gM} {x : sS} (N : p_N t c M) (X : r_X T t M x) : Ok (F_X12_clauseHere (some 175) M) (fun y => e_R T t (s_c1 T (c + 1) x) y ∧ (y.1 = 1 → (y.2.2.1 175 14).toInt = ((c + 1 : Nat) : Int))) := by
  obtain ⟨K, hl, hc⟩ := N
  have H := K.1.1.1
  have ht := K.1.1.2
  have hx := K.2.1
  have s1 := n_s1 H
  have k1 := n_sk_le hx.2
  obtain ⟨p, hp⟩ : ∃ p, p = n_sk M (n_x M) := ⟨_, rfl⟩
  obtain ⟨ex, X3⟩ := r_Xsee X H hx.2
  have px : p = x.1 := hp.trans ex
  rw [← px] at X3
  rw [← hp] at k1
  obtain ⟨H3, f3⟩ := n_at_set (p := p) H (by omega)
  have x3 : n_x (n_at M p) = p := n_at_x (by omega)
  have K3 : p_K t c (n_at M p) := p_K_of K H3 f3 (by decide) (by omega)
  have v4 : (n_at M p).2.1 175 8 = Int32.ofNat p := n_at8
  have xi : (Int32.ofNat p).toInt = (p : Int) := i_ofNat (by omega)
  have v14 : (n_at M p).2.1 175 14 = M.2.1 175 14 := n_atk (by decide)
  have e11 := K3.1.2
  have ew : n_w M = n_w T := (n_T X.1.1 X.1.2).2.1.1
  delta F_X12_clauseHere F_X12_clauseHere_b0
  rw [e_gO H, Option.bind_some, R_see H hx.2, ← hp, Option.bind_some]
  dsimp only
  rw [e_gI H3, Option.bind_some, e_gI H3, Option.bind_some, v4]
  have z6 : (6 : Int32).toInt = 6 := rfl
  refine Ok_e (fun e => by have := i_eq e; omega) ?_
  delta F_X12_clauseHere_b24
  rw [if_pos rfl, e_gO H3, Option.bind_some, R_isW2 H hx.2 hp, Option.bind_some]
  dsimp only
  generalize n_at M p = M3 at H3 x3 K3 v14 e11 X3 ⊢
  have bad : ∀ {k : Int32} {d : Nat}, k.toInt = (d : Int) → d ≤ 7 → Ok ((F_X12_fails (some 175) k (Int32.ofNat p) M3).bind fun (v2, M4) => if v2 = 0 ∨ v2 = 1 then some (v2, M4) else none) (fun y => e_R T t (.inl (1 + 8 * x.1 + d)) y ∧ (y.1 = 1 → (y.2.2.1 175 14).toInt = ((c + 1 : Nat) : Int))) := by
    intro k d hk hd
    rw [R_fails H3, Option.bind_some]
    dsimp only
    rw [if_pos (Or.inl rfl), ← px]
    exact Ok_s ⟨⟨rfl, n_f_0 X3.2.2.1.1 xi (by omega) hk hd⟩, fun z => absurd z (by show ¬ (0 : Int32) = 1; decide)⟩
  unfold s_c1
  by_cases cw : n_w M p 1717658725 = true
  · have kk : k_kind T x.1 = 278 := by rw [← px]; exact n_w_fade.mp (by rw [← ew]; exact cw)
    rw [if_pos cw, if_neg (by decide), if_neg (by rw [kk]; decide)]
    delta F_X12_clauseHere_b56 F_X12_clauseHere_b71
    rw [e_gI H3, Option.bind_some, if_pos rfl]
    have z12 : (12 : Int32).toInt = 12 := rfl
    have hl3 : (M3.2.1 175 14).toInt = (c : Int) := by rw [v14]; exact hl
    by_cases c12 : M3.2.1 175 14 = 12
    · have : c = 12 := by rw [c12] at hl3; omega
      rw [if_pos c12, if_pos (by omega), e_gO H3, Option.bind_some]
      exact bad rfl (by decide)
    · have : c ≠ 12 := fun z => c12 (Int32.toInt_inj.mp (by omega))
      rw [if_neg c12, if_neg (by omega), Option.bind_some, e_pI H3, Option.bind_some, n_inc hl3 (by omega)]
      obtain ⟨H2, f2⟩ := y_set (M' := mI M3 175 14 (Int32.ofNat (c + 1))) (S := 2 ^ 14) H3 (i := 175) (k := 14) (by decide) rfl rfl y_mI1 (fun j a hj => y_mI2 hj) rfl (y_full rfl) (by decide)
      have w14 : (mI M3 175 14 (Int32.ofNat (c + 1))).2.1 175 14 = Int32.ofNat (c + 1) := y_mI1
      generalize mI M3 175 14 (Int32.ofNat (c + 1)) = M2 at H2 f2 w14 ⊢
      have x2 := n_fx f2 (by decide)
      have K2 : p_K t c M2 := p_K_of K3 H2 f2 (by decide) (by rw [x2]; exact K3.2.1)
      have X2 := r_Xfr X3 f2 (by decide)
      rw [if_pos rfl, e_gO H2, Option.bind_some]
      refine Ok_b (Ok_and (P_isFadeHere K2 (by omega)) (E_isFadeHere B K2 (by omega) X2 (by rw [x2, x3]; exact px) kk)) (fun y z => ?_)
      obtain ⟨v, M5⟩ := y
      obtain ⟨z, E⟩ := z
      refine Ok_t ?_ (Ok_s ⟨E, fun _ => ?_⟩)
      · rcases z.2 with z | z
        · exact Or.inl z.1
        · exact Or.inr z.1
      · show (M5.2.1 175 14).toInt = _
        rw [y_fk (i := 175) (k := 14) z.1.2.1 (by decide), w14, i_ofNat (by omega)]
  · have kk : k_kind T x.1 ≠ 278 := by
      rw [← px]
      exact fun z => cw (by rw [ew]; exact n_w_fade.mpr z)
    rw [if_neg cw, if_pos rfl, if_pos kk]
    delta F_X12_clauseHere_b49
    rw [e_gO H3, Option.bind_some]
    exact bad rfl (by decide)
/-- the whole text is read: a RULE or a FAULT; the tape is empty -/
def e_Z {α : Type} (r : Nat ⊕ α) : Int32 × gM → Prop := fun y => y.2.2.1 175 1 = 0 ∧ (match r with | .inl e => y.1 = 0 ∧ (y.2.2.1 175 9).toInt = (e : Int) | .inr _ => y.1 = 1)
theorem E_rd_b88 {α : Type} {r : Nat ⊕ α} {M : gM} (H : y_HT M) (h : match r with | .inl e => (M.2.1 175 9).toInt = (e : Int) ∧ M.2.1 175 9 ≠ 0 | .inr _ => M.2.1 175 9 = 0) : Ok (F_X12_readsAll_b88 (some 175) M) (e_Z r) := by
  delta F_X12_readsAll_b88
  rw [e_pI H, Option.bind_some]
  have H1 : y_HT (mI M 175 1 (0 : Int32)) := (y_set (M' := mI M 175 1 (0 : Int32)) (S := 2 ^ 1) H (i := 175) (k := 1) (by decide) rfl rfl y_mI1 (fun j a hj => y_mI2 hj) rfl (y_in (lo := 0) (hi := 400) rfl (by decide)) (by decide)).1
  have w9 : (mI M 175 1 (0 : Int32)).2.1 175 9 = M.2.1 175 9 := mI_ne (Or.inr (by decide))
  have w1 : (mI M 175 1 (0 : Int32)).2.1 175 1 = 0 := y_mI1
  rw [e_gI H1, Option.bind_some, w9]
  cases r with
  | inl e =>
    rw [if_neg h.2]
    exact Ok_s ⟨w1, rfl, by rw [w9]; exact h.1⟩
  | inr y =>
    have h : M.2.1 175 9 = 0 := h
    rw [if_pos h]
    exact Ok_s ⟨w1, rfl⟩
/-- what the clauses make of it, when the last one's reading is known -/
def s_nx (T : gM) (m cl : Nat) (ms : List (Nat × Nat × Nat)) (r : Nat ⊕ (sS × (Nat × Nat × Nat))) : Nat ⊕ (sS × List (Nat × Nat × Nat)) := match r with
  | .inl e => .inl e
  | .inr (y, mk1) => if k_kind T y.1 = 256 then .inr (y, mk1 :: ms) else if k_kind T y.1 = 59 then s_tl T m (cl + 1) (k_go T y.1, y.2) (mk1 :: ms) else .inl (1 + 8 * y.1 + 0)
theorem s_tl_S {T : gM} {m cl : Nat} {x : sS} {ms : List (Nat × Nat × Nat)} : s_tl T (m + 1) cl x ms = s_nx T m cl ms (s_cl T cl x) := rfl
theorem E_rd_L35 {T : gM} (B : z_B T) {t : Nat} : ∀ (n m cl : Nat) {l1 : Int32} {M : gM} {ms : List (Nat × Nat × Nat)} {r : Nat ⊕ (sS × (Nat × Nat × Nat))}, y_HT M → ((l1 = 0 ∧ M.2.1 175 9 ≠ 0 ∧ ∃ e, r = .inl e ∧ (M.2.1 175 9).toInt = (e : Int)) ∨ (l1 = 1 ∧ p_N t cl M ∧ ∃ y mk1, r = .inr (y, mk1) ∧ r_X T t M y)) → (l1 = 0 → 1 ≤ n) → (l1 ≠ 0 → n_s M - n_x M < n) → cl + m = 14 → Ok (F_X12_readsAll_L35 n (some 175) l1 M) (e_Z (s_nx T m cl ms r)) := by
  intro n
  induction n with
  | zero =>
    intro m cl l1 M ms r H h a1 a2 hm
    exfalso
    by_cases e : l1 = 0
    · have := a1 e
      omega
    · have := a2 e
      omega
  | succ n ih =>
    intro m cl l1 M ms r H h a1 a2 hm
    show Ok (F_X12_readsAll_b35 (F_X12_readsAll_L35 n) (some 175) l1 M) _
    delta F_X12_readsAll_b35
    rcases h with ⟨h, h2, e, er, he⟩ | ⟨h, N, y, mk1, er, X⟩
    · subst er
      rw [if_pos h]
      delta F_X12_readsAll_b66
      rw [if_pos h]
      exact E_rd_b88 (r := (.inl e : Nat ⊕ (sS × List (Nat × Nat × Nat)))) H ⟨he, h2⟩
    · subst er
      have hx := N.1.2.1
      have s1 := n_s1 H
      have a3 := a2 (by rw [h]; decide)
      have k1 := n_sk_le hx.2
      obtain ⟨p, hp⟩ : ∃ p, p = n_sk M (n_x M) := ⟨_, rfl⟩
      obtain ⟨ex, X3⟩ := r_Xsee X H hx.2
      have px : p = y.1 := hp.trans ex
      rw [← px] at X3
      rw [← hp] at k1
      obtain ⟨H3, f3⟩ := n_at_set (p := p) H (by omega)
      have x3 : n_x (n_at M p) = p := n_at_x (by omega)
      have s3 : n_s (n_at M p) = n_s M := n_at_s
      have N3 : p_N t cl (n_at M p) := ⟨p_K_of N.1 H3 f3 (by decide) (by rw [x3]; omega), by rw [n_atk (by decide)]; exact N.2.1, N.2.2⟩
      have ec : n_c M p = n_c T p := congrFun (n_T X.1.1 X.1.2).2.2.1.2 p
      have k59 := k_s1 (T := T) (p := p) (c := (59 : Int32)) (n := 59) rfl (by omega) (by omega) (by omega) (by omega)
      have v8 : (n_at M p).2.1 175 8 = Int32.ofNat p := n_at8
      have xi : (Int32.ofNat p).toInt = (p : Int) := i_ofNat (by omega)
      have c12 := N.2.2
      unfold s_nx
      dsimp only
      rw [if_neg (by rw [h]; decide), e_gO H, Option.bind_some, R_see H hx.2, ← hp, Option.bind_some]
      dsimp only
      refine Ok_i (fun e => ?_) (fun e => ?_)
      · have hlt := n_c_lt e (by decide)
        rw [ec] at e
        have kk : k_kind T y.1 = 59 := by rw [← px]; exact k59.1.mp e
        have kg : n_sk T (p + 1) = k_go T y.1 := by rw [← px]; exact (k59.2 e).symm
        rw [if_neg (show ¬ k_kind T y.1 = 256 by rw [kk]; decide), if_pos kk]
        generalize n_at M p = M3 at H3 x3 s3 N3 X3 ⊢
        rw [e_gI H3, Option.bind_some, e_pI H3, Option.bind_some, n_next H3]
        have h9 := N3.1.2.1
        obtain ⟨H5, f5⟩ := n_at_set (p := n_x M3 + 1) H3 (by omega)
        have x5 : n_x (n_at M3 (n_x M3 + 1)) = n_x M3 + 1 := n_at_x (by omega)
        have s5 : n_s (n_at M3 (n_x M3 + 1)) = n_s M3 := n_at_s
        have N5 : p_N t cl (n_at M3 (n_x M3 + 1)) := ⟨p_K_of N3.1 H5 f5 (by decide) (by rw [x5]; omega), by rw [n_atk (by decide)]; exact N3.2.1, N3.2.2⟩
        have X5 : r_X T t (n_at M3 (n_x M3 + 1)) (k_go T y.1, y.2) := r_Xat X3 (by omega) (by rw [x3]; exact kg)
        generalize n_at M3 (n_x M3 + 1) = M5 at H5 x5 s5 N5 X5 ⊢
        rw [e_gC H5, Option.bind_some]
        refine Ok_b (Ok_and (P_clauseHere N5) (E_clauseHere B N5 X5)) (fun y2 z => ?_)
        obtain ⟨v7, M8⟩ := y2
        obtain ⟨⟨⟨H8, G8⟩, z⟩, E, E14⟩ := z
        have s8 := n_fs G8.1 (by decide)
        dsimp only at H8 G8 z s8 E E14 ⊢
        obtain ⟨m', rfl⟩ : ∃ m', m = m' + 1 := ⟨m - 1, by omega⟩
        rw [s_tl_S]
        rw [s_c1_cl] at E
        refine ih m' (cl + 1) H8 ?_ (fun _ => by omega) (fun hne => ?_) (by omega)
        · cases hit : s_cl T (cl + 1) (k_go T y.1, y.2) with
          | inl e =>
            rw [hit] at E
            obtain ⟨E1, E2⟩ := E
            dsimp only at E1 E2
            rcases z with z | ⟨z, _⟩
            · exact Or.inl ⟨E1, z.2, e, rfl, E2⟩
            · rw [E1] at z
              exact absurd z (by decide)
          | inr ym =>
            obtain ⟨y', m''⟩ := ym
            rw [hit] at E
            obtain ⟨E1, E2⟩ := E
            dsimp only at E1 E2
            rcases z with z | ⟨_, ⟨c2, N8⟩, _⟩
            · rw [E1] at z
              exact absurd z.1 (by decide)
            · have q1 := E14 E1
              have q2 := N8.2.1
              have : c2 = cl + 1 := by omega
              subst this
              exact Or.inr ⟨E1, N8, y', m'', rfl, E2⟩
        · rcases z with z | ⟨_, ⟨c2, N8⟩, z3⟩
          · exact absurd z.1 hne
          · have := N8.1.2.1.2
            omega
      · rw [ec] at e
        have kn : k_kind T y.1 ≠ 59 := by rw [← px]; exact mt k59.1.mpr e
        delta F_X12_readsAll_b66
        have X3b := X3
        have se2 : F_X12_see (some 175) (n_at M p) = some (n_c M p, n_at M p) := R_see2 H hx.2 hp
        rw [if_neg (by rw [h]; decide), e_gO H3, Option.bind_some, se2, Option.bind_some]
        dsimp only
        by_cases cE : n_s T ≤ p
        · rw [if_pos (show n_c M p = -1 by rw [ec]; exact (n_c_end B).mpr cE), if_pos (show k_kind T y.1 = 256 by rw [← px]; exact (k_256 B).mpr cE)]
          exact E_rd_b88 H3 X3.2.2.1.1
        · rw [if_neg (show ¬ n_c M p = -1 by rw [ec]; exact mt (n_c_end B).mp cE), if_neg (show ¬ k_kind T y.1 = 256 by rw [← px]; exact mt (k_256 B).mp cE), if_neg kn]
          rw [e_gI H3, Option.bind_some, v8, e_gC H3, Option.bind_some, R_fails H3, Option.bind_some]
          dsimp only
          obtain ⟨H9, f9⟩ := n_f_set (k := 0) (p := Int32.ofNat p) H3
          refine E_rd_b88 H9 ⟨?_, n_f9 xi (by omega) (by decide)⟩
          rw [← px]
          exact n_f_0 X3.2.2.1.1 xi (by omega) rfl (by decide)
