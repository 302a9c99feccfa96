/-! the reader's place among the pieces -/
theorem z_E_le {T : gM} {N : Nat} (h : z_E T N) : N ≤ n_s T := by
  have : ∀ i, i ≤ N → i ≤ k_pl T i := by
    intro i
    induction i with
    | zero => intro _; exact Nat.zero_le _
    | succ i ih =>
      intro hi
      have h1 := ih (by omega)
      have h2 := (k_nx_r (h.2 i (by omega))).1
      show i + 1 ≤ k_nx T (k_pl T i)
      omega
  have h1 := this N (Nat.le_refl _)
  rw [h.1] at h1
  exact h1
def z_C (T M : gM) (p : Nat) : Prop := z_T T M ∧ ∃ N j, z_E T N ∧ z_P T M (N + 1) ∧ j ≤ N ∧ (M.2.1 131 5).toInt = (j : Int) ∧ k_pl T j = p
theorem z_Cs {T M : gM} {p : Nat} (C : z_C T M p) : p ≤ n_s T ∧ n_s T ≤ 400 := by
  obtain ⟨Z, N, j, ⟨e1, e2⟩, _, hj, _, rfl⟩ := C
  refine ⟨?_, Z.1.2.2⟩
  rcases Nat.lt_or_ge j N with h | h
  · have := e2 j h
    omega
  · have : j = N := by omega
    rw [this, e1]
    exact Nat.le_refl _
/-- what leaves the pieces and the place alone -/
theorem z_Cm {T M M' : gM} {p : Nat} (C : z_C T M p) (f : z_Fr M M') (h : (∀ k, k = 4 ∨ k = 5 → M'.2.1 131 k = M.2.1 131 k) ∧ ∀ i, i = 133 ∨ i = 134 ∨ i = 135 → M'.2.1 i = M.2.1 i) : z_C T M' p := by
  obtain ⟨Z, N, j, hE, ⟨p1, p2⟩, hj, h5, hp⟩ := C
  refine ⟨z_Tm Z f, N, j, hE, ⟨by rw [h.1 4 (Or.inl rfl)]; exact p1, fun i hi => ?_⟩, hj, by rw [h.1 5 (Or.inr rfl)]; exact h5, hp⟩
  rw [h.2 133 (Or.inl rfl), h.2 134 (Or.inr (Or.inl rfl)), h.2 135 (Or.inr (Or.inr rfl))]
  exact p2 i hi
theorem z_Cmi {T M : gM} {p i k : Nat} {v : Int32} (C : z_C T M p) (hw : z_W i k) (h : (i = 131 ∧ k = 7) ∨ i = 148 ∨ i = 149 ∨ i = 150) : z_C T (mI M i k v) p := by
  refine z_Cm C (z_up hw) ⟨fun a ha => mI_ne (by omega), fun a ha => funext (fun b => mI_ne (Or.inl (by omega)))⟩
theorem C_kind {T M : gM} {p : Nat} (C : z_C T M p) : Ok (F_X9_kind (some 131) M) (fun v => v.toInt = k_kind T p) := by
  obtain ⟨⟨⟨⟨⟨⟨⟨k1, _⟩, ⟨k3, _⟩, _⟩, _⟩, ⟨⟨_, r1⟩, _⟩, _⟩, B⟩, _⟩, N, j, hE, ⟨p1, p2⟩, hj, h5, hp⟩ := C
  have hN := z_E_le hE
  have hB := B.2
  delta F_X9_kind F_X9_kind_b0
  rw [t_gI k1, Option.bind_some, t_gI k1, Option.bind_some, if_neg (fun z => by have := i_le z; omega), t_gR k1 r1, Option.bind_some, Option.bind_some, t_aI k3 (by omega) (by omega), Option.bind_some, i_cl h5]
  refine Ok_s ?_
  rw [(p2 j (by omega)).1.1, hp]
theorem C_place {T M : gM} {p : Nat} (C : z_C T M p) : Ok (F_X9_place (some 131) M) (fun v => v.toInt = (p : Int)) := by
  obtain ⟨⟨⟨⟨⟨⟨⟨k1, _⟩, ⟨_, k4⟩, _⟩, _⟩, ⟨_, r2, _⟩, _⟩, B⟩, _⟩, N, j, hE, ⟨p1, p2⟩, hj, h5, hp⟩ := C
  have hN := z_E_le hE
  have hB := B.2
  delta F_X9_place F_X9_place_b0
  rw [t_gI k1, Option.bind_some, t_gI k1, Option.bind_some, if_neg (fun z => by have := i_le z; omega), t_gR k1 r2, Option.bind_some, Option.bind_some, t_aI k4 (by omega) (by omega), Option.bind_some, i_cl h5]
  refine Ok_s ?_
  rw [(p2 j (by omega)).1.2, hp]
/-- behind the piece at p -/
def k_go (T : gM) (p : Nat) : Nat := if p < n_s T then k_nx T p else p
/-- only the reader's place changed -/
def z_5 (M M' : gM) : Prop := z_Fr M M' ∧ ∀ i k, ¬ (i = 131 ∧ k = 5) → M'.2.1 i k = M.2.1 i k
theorem C_next {T M : gM} {p : Nat} (C : z_C T M p) : Ok (F_X9_next (some 131) M) (fun M' => z_C T M' (k_go T p) ∧ z_5 M M') := by
  have C0 := C
  obtain ⟨Z, N, j, hE, ⟨p1, p2⟩, hj, h5, hp⟩ := C
  have k1 := Z.1.1.1.1.1.1
  have hN := z_E_le hE
  have hB := Z.1.2.2
  have a1 := i_subc (x := M.2.1 131 4) (c := (1 : Int32)) (n := 1) rfl (by omega) (by omega)
  delta F_X9_next F_X9_next_b0
  rw [t_gI k1, Option.bind_some, t_gI k1, Option.bind_some]
  refine Ok_i (fun c => ?_) (fun c => ?_)
  · have := i_le c
    have ej : j = N := by omega
    have ep : p = n_s T := by rw [← hp, ej, hE.1]
    refine Ok_s ⟨?_, z_rf, fun _ _ _ => rfl⟩
    unfold k_go
    rw [if_neg (by omega)]
    exact C0
  · have hc := i_nle c
    have hlt : k_pl T j < n_s T := hE.2 j (by omega)
    rw [Option.bind_some, t_pI k1, Option.bind_some, n_inc h5 (by omega)]
    have f : z_Fr M (mI M 131 5 (Int32.ofNat (j + 1))) := z_up (by unfold z_W; omega)
    have o : ∀ i k, ¬ (i = 131 ∧ k = 5) → (mI M 131 5 (Int32.ofNat (j + 1))).2.1 i k = M.2.1 i k := fun i k h => mI_ne (by omega)
    refine Ok_s ⟨⟨z_Tm Z f, N, j + 1, hE, ⟨by rw [o _ _ (by omega)]; exact p1, fun i hi => ?_⟩, by omega, ?_, ?_⟩, f, o⟩
    · rw [o 133 _ (by omega), o 134 _ (by omega), o 135 _ (by omega)]
      exact p2 i hi
    · rw [y_mI1, i_ofNat (by omega)]
    · unfold k_go
      rw [← hp, if_pos hlt]
      rfl
def n_bl (M : gM) (l1 l2 : Int32) : gM := if M.2.1 131 7 = 0 then mI M 131 7 (((1 : Int32) + ((8 : Int32) * l1)) + l2) else M
theorem C_blame {M : gM} {l1 l2 : Int32} (k1 : g_k M 131 = (9, 0)) : F_X9_blame (some 131) l1 l2 M = some (n_bl M l1 l2) := by
  delta F_X9_blame F_X9_blame_b0
  unfold n_bl
  rw [t_gI k1, Option.bind_some]
  by_cases c : M.2.1 131 7 = 0
  · rw [if_pos c, if_pos c, t_pI k1, Option.bind_some]
  · rw [if_neg c, if_neg c]
theorem z_k131 {T M : gM} {p : Nat} (C : z_C T M p) : g_k M 131 = (9, 0) := C.1.1.1.1.1.1.1
/-- only the FAULT changed -/
def z_7 (M M' : gM) : Prop := z_Fr M M' ∧ ∀ i k, ¬ (i = 131 ∧ k = 7) → M'.2.1 i k = M.2.1 i k
theorem n_bl_r {T M : gM} {p : Nat} {l1 l2 : Int32} (C : z_C T M p) : z_C T (n_bl M l1 l2) p ∧ z_7 M (n_bl M l1 l2) := by
  unfold n_bl
  by_cases c : M.2.1 131 7 = 0
  · rw [if_pos c]
    exact ⟨z_Cmi C (by unfold z_W; omega) (Or.inl ⟨rfl, rfl⟩), z_up (by unfold z_W; omega), fun i k h => mI_ne (by omega)⟩
  · rw [if_neg c]
    exact ⟨C, z_rf, fun _ _ _ => rfl⟩
theorem n_bl_0 {M : gM} {l1 l2 : Int32} {q d : Nat} (h : M.2.1 131 7 = 0) (h1 : l1.toInt = (q : Int)) (hq : q ≤ 400) (h2 : l2.toInt = (d : Int)) (hd : d ≤ 7) : ((n_bl M l1 l2).2.1 131 7).toInt = ((1 + 8 * q + d : Nat) : Int) := by
  unfold n_bl
  rw [if_pos h, y_mI1]
  have a1 := i_mulL (c := (8 : Int32)) (x := l1) (n := 8) rfl (by omega) (by omega)
  have a2 := i_cadd (c := (1 : Int32)) (x := (8 : Int32) * l1) (n := 1) rfl (by omega) (by omega)
  have a3 := i_add (x := (1 : Int32) + (8 : Int32) * l1) (y := l2) (by omega) (by omega)
  omega
theorem n_bl_s {M : gM} {l1 l2 : Int32} (h : M.2.1 131 7 ≠ 0) : n_bl M l1 l2 = M := by
  unfold n_bl
  rw [if_neg h]
theorem C_faulty {M : gM} (k1 : g_k M 131 = (9, 0)) : F_X9_isFaulty (some 131) M = some (if M.2.1 131 7 = 0 then 0 else 1) := by
  delta F_X9_isFaulty F_X9_isFaulty_b0
  rw [t_gI k1, Option.bind_some]
  by_cases c : M.2.1 131 7 = 0
  · rw [if_pos c, if_pos c]
  · rw [if_neg c, if_neg c]
/-- the class's tape only -/
def z_57 (M M' : gM) : Prop := z_Fr M M' ∧ ∀ i k, ¬ (i = 131 ∧ (k = 5 ∨ k = 7)) → M'.2.1 i k = M.2.1 i k
theorem z_57a {M M' : gM} (h : z_5 M M') : z_57 M M' := ⟨h.1, fun i k hk => h.2 i k (by omega)⟩
theorem z_57b {M M' : gM} (h : z_7 M M') : z_57 M M' := ⟨h.1, fun i k hk => h.2 i k (by omega)⟩
theorem z_57t {M M1 M2 : gM} (h1 : z_57 M M1) (h2 : z_57 M1 M2) : z_57 M M2 := ⟨z_tr h1.1 h2.1, fun i k hk => (h2.2 i k hk).trans (h1.2 i k hk)⟩
theorem z_57r {M : gM} : z_57 M M := ⟨z_rf, fun _ _ _ => rfl⟩
theorem k_v0_D {T : gM} {p : Nat} (h : n_D T p = true) : k_v0 T p = k_val T p := by
  unfold k_v0
  rw [if_pos h]
theorem k_kind_D {T : gM} {p : Nat} : k_kind T p = 257 ↔ n_D T p = true := by
  unfold k_kind
  by_cases c0 : n_s T ≤ p
  · rw [if_pos c0]
    exact ⟨fun h => by omega, fun h => by have := (of_decide_eq_true h).1; omega⟩
  · rw [if_neg c0]
    by_cases c1 : n_L T p = true
    · rw [if_pos c1]
      refine ⟨fun h => by have := k_w_r (T := T) (p := p); omega, fun h => ?_⟩
      rw [n_LD c1] at h
      cases h
    · rw [if_neg c1]
      by_cases c2 : n_D T p = true
      · rw [if_pos c2]
        exact ⟨fun _ => c2, fun _ => rfl⟩
      · rw [if_neg c2]
        refine ⟨fun h => ?_, fun h => absurd h c2⟩
        by_cases c3 : k_two T p = true
        · rw [if_pos c3] at h
          split at h <;> omega
        · rw [if_neg c3] at h
          exfalso
          have : (n_ca T p).toInt ≤ 255 := by
            unfold n_ca
            rw [if_pos (by omega)]
            exact (i_andc (a := n_b T p) (m := (255 : Int32)) (n := 255) rfl (by decide)).2
          omega
theorem z_no_s {T : gM} {p : Nat} (h : n_D T p = true) : k_go T p = n_sk T (n_de T p) := by
  have h1 : p < n_s T := (of_decide_eq_true h).1
  have h2 : n_L T p ≠ true := fun z => by rw [n_LD z] at h; cases h
  unfold k_go k_nx k_end
  rw [if_pos h1, if_neg h2, if_pos h]
theorem C_number {T M : gM} {p : Nat} {lo hi : Int32} (C : z_C T M p) (f0 : M.2.1 131 7 = 0) (hlo : 0 ≤ lo.toInt) (hhi : hi.toInt ≤ 999999) : Ok (F_X9_number (some 131) lo hi M) (fun r =>
    (n_D T p = true ∧ n_ok T p lo.toInt hi.toInt = true → r.1 = n_v T p ∧ z_C T r.2 (k_go T p) ∧ z_5 M r.2) ∧
    (n_D T p = true ∧ ¬ n_ok T p lo.toInt hi.toInt = true → r.1 = -1 ∧ z_C T r.2 p ∧ z_7 M r.2 ∧ (r.2.2.1 131 7).toInt = ((1 + 8 * p + 1 : Nat) : Int)) ∧
    (¬ n_D T p = true → r.1 = -1 ∧ z_C T r.2 p ∧ z_7 M r.2 ∧ (r.2.2.1 131 7).toInt = ((1 + 8 * p + 0 : Nat) : Int))) := by
  have k1 := z_k131 C
  have hs := z_Cs C
  delta F_X9_number F_X9_number_b0
  rw [t_gO k1, Option.bind_some, C_faulty k1, Option.bind_some, if_pos f0, if_pos rfl]
  have bl : ∀ {l : Int32} {d : Nat}, l.toInt = (d : Int) → d ≤ 7 → Ok ((gO 9 M (some 131)).bind fun i1 => (F_X9_place (some i1) M).bind fun v2 => (F_X9_blame (some i1) v2 l M).bind fun M3 => some ((-1 : Int32), M3)) (fun r => r.1 = -1 ∧ z_C T r.2 p ∧ z_7 M r.2 ∧ (r.2.2.1 131 7).toInt = ((1 + 8 * p + d : Nat) : Int)) := by
    intro l d hl hd
    rw [t_gO k1, Option.bind_some]
    refine Ok_b (C_place C) (fun v2 hv => ?_)
    rw [C_blame k1, Option.bind_some]
    obtain ⟨c1, c2⟩ := n_bl_r (l1 := v2) (l2 := l) C
    exact Ok_s ⟨rfl, c1, c2, n_bl_0 f0 hv (by omega) hl hd⟩
  refine Ok_b (C_kind C) (fun v3 h3 => ?_)
  have z257 : (257 : Int32).toInt = 257 := rfl
  refine Ok_i (fun c => ?_) (fun c => ?_)
  · have hD : n_D T p = true := k_kind_D.mp (by rw [← h3, c]; rfl)
    have C0 := C
    obtain ⟨⟨⟨⟨⟨⟨⟨_, _⟩, _, k5⟩, _⟩, ⟨_, _, r3⟩, _⟩, B⟩, _⟩, N, j, hE, ⟨p1, p2⟩, hj, h5, hp⟩ := C
    have hN := z_E_le hE
    have hB := B.2
    have ev : M.2.1 135 j = k_val T p := by rw [(p2 j (by omega)).2, hp, k_v0_D hD]
    rw [t_gI k1, Option.bind_some, t_gI k1, Option.bind_some, if_pos (Int32.lt_iff_toInt_lt.mpr (by omega)), t_gR k1 r3, Option.bind_some, Option.bind_some, t_aI k5 (by omega) (by omega), Option.bind_some, i_cl h5, ev]
    have vr := n_v_r (M := T) (p := p)
    have z6 : (1000000 : Int32).toInt = 1000000 := rfl
    by_cases ok : n_ok T p lo.toInt hi.toInt = true
    · have o := of_decide_eq_true ok
      have ek : k_val T p = n_v T p := by unfold k_val; rw [if_pos o.1]
      rw [ek, if_neg (fun z => by have := i_lt z; omega), if_pos (Int32.le_iff_toInt_le.mpr (by omega))]
      refine Ok_b (C_next C0) (fun M9 z => ?_)
      exact Ok_s ⟨fun _ => ⟨rfl, z⟩, fun h => absurd ok h.2, fun h => absurd hD h⟩
    · have bad := bl (l := (1 : Int32)) (d := 1) rfl (by decide)
      refine Ok_w (P := fun r => r.1 = -1 ∧ z_C T r.2 p ∧ z_7 M r.2 ∧ (r.2.2.1 131 7).toInt = ((1 + 8 * p + 1 : Nat) : Int)) ?_ (fun r z => ⟨fun h => absurd h.2 ok, fun _ => z, fun h => absurd hD h⟩)
      refine Ok_i (fun _ => bad) (fun c1 => Ok_i (fun c2 => ?_) (fun _ => bad))
      exfalso
      have d1 := i_nlt c1
      have d2 := i_le c2
      apply ok
      by_cases c5 : n_de T p ≤ p + 5
      · have ek : k_val T p = n_v T p := by unfold k_val; rw [if_pos c5]
        rw [ek] at d1 d2
        exact decide_eq_true ⟨c5, d1, d2⟩
      · have ek : k_val T p = 1000000 := by unfold k_val; rw [if_neg c5]
        rw [ek] at d2
        omega
  · have hD : ¬ n_D T p = true := fun z => c (Int32.toInt_inj.mp (by rw [h3, z257]; exact k_kind_D.mpr z))
    refine Ok_w (bl (l := (0 : Int32)) (d := 0) rfl (by decide)) (fun r z => ⟨fun h => absurd h.1 hD, fun h => absurd h.1 hD, fun _ => z⟩)
/-- in a FAULT a number is not read -/
theorem C_numberF {M : gM} {lo hi : Int32} (k1 : g_k M 131 = (9, 0)) (f0 : M.2.1 131 7 ≠ 0) : F_X9_number (some 131) lo hi M = some (-1, M) := by
  delta F_X9_number F_X9_number_b0
  rw [t_gO k1, Option.bind_some, C_faulty k1, Option.bind_some, if_neg f0, if_neg (by decide)]
theorem C_expect {T M : gM} {p : Nat} {l : Int32} (C : z_C T M p) : Ok (F_X9_expect (some 131) l M) (fun M' => z_C T M' (k_go T p) ∧ z_57 M M' ∧ (k_kind T p = l.toInt → M'.2.1 131 7 = M.2.1 131 7) ∧ (M.2.1 131 7 ≠ 0 → M'.2.1 131 7 = M.2.1 131 7) ∧ (M.2.1 131 7 = 0 → k_kind T p ≠ l.toInt → (M'.2.1 131 7).toInt = ((1 + 8 * p + 0 : Nat) : Int))) := by
  have k1 := z_k131 C
  have hs := z_Cs C
  delta F_X9_expect F_X9_expect_b0 F_X9_expect_b17
  rw [t_gO k1, Option.bind_some]
  refine Ok_b (C_kind C) (fun v2 h2 => ?_)
  refine Ok_i (fun c => ?_) (fun c => ?_)
  · rw [t_gO k1, Option.bind_some]
    refine Ok_b (C_next C) (fun M2 z => Ok_s ⟨z.1, z_57a z.2, fun _ => z.2.2 131 7 (by omega), fun _ => z.2.2 131 7 (by omega), fun _ h => absurd (by rw [← h2, c]) h⟩)
  · refine Ok_b (C_place C) (fun v3 h3 => ?_)
    rw [C_blame k1, Option.bind_some]
    obtain ⟨c1, c2⟩ := n_bl_r (l1 := v3) (l2 := (0 : Int32)) C
    have e0 := fun h => n_bl_0 (M := M) (l1 := v3) (l2 := (0 : Int32)) (q := p) (d := 0) h h3 (by omega) rfl (by decide)
    have es := fun h => n_bl_s (M := M) (l1 := v3) (l2 := (0 : Int32)) h
    generalize n_bl M v3 0 = M4 at c1 c2 e0 es ⊢
    have k4 := z_k131 c1
    rw [t_gO k4, Option.bind_some]
    refine Ok_b (C_next c1) (fun M2 z => Ok_s ⟨z.1, z_57t (z_57b c2) (z_57a z.2), fun h => absurd (Int32.toInt_inj.mp (h2.trans h)) c, fun h => ?_, fun h _ => ?_⟩)
    · rw [z.2.2 131 7 (by omega), es h]
    · rw [z.2.2 131 7 (by omega)]
      exact e0 h
