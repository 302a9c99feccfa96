/-! the class reads as the document says -/
theorem k_go_r {T : gM} {p : Nat} (h : p < n_s T) : p < k_go T p ∧ k_go T p ≤ n_s T := by
  unfold k_go
  rw [if_pos h]
  exact k_nx_r h
theorem k_go_le {T : gM} {p : Nat} : p ≤ k_go T p := by
  unfold k_go
  by_cases h : p < n_s T
  · rw [if_pos h]
    have := k_nx_r h
    omega
  · rw [if_neg h]
    exact Nat.le_refl _
theorem k_kind_lt {T : gM} {p : Nat} (h : k_kind T p ≠ 256) : p < n_s T := by
  rcases Nat.lt_or_ge p (n_s T) with e | e
  · exact e
  · exfalso
    apply h
    unfold k_kind
    rw [if_pos e]
theorem c_Pw {T M M1 M' : gM} {r : s_R} {p q c : Nat} (f : c_Fr M M1) (h : c_P T M1 r q c M') (hp : p ≤ q) : c_P T M r p c M' := by
  refine ⟨c_tr f h.1, ?_⟩
  have h2 := h.2
  cases r with
  | inl e => exact h2
  | inr y => exact ⟨h2.1, by have := h2.2; omega⟩
theorem C_readValue {T M : gM} {x : sS} {c : Nat} (X : c_X T M x c) : Ok (F_X7_readValue (some 148) M) (c_P T M (s_val T x) x.1 c) := by
  have C := X.1.1
  have f0 := X.1.2
  have hs := z_Cs C
  have hv := X.2.1.2
  obtain ⟨⟨⟨k1, k2⟩, _⟩, ⟨⟨r0, r1⟩, _⟩⟩ := z_148 (z_CL C)
  have k9 := z_k131 C
  delta F_X7_readValue F_X7_readValue_b0
  rw [t_gR k1 r0, Option.bind_some, t_gO k9, Option.bind_some]
  refine Ok_b (C_place C) (fun v3 h3 => ?_)
  rw [Option.bind_some, t_gO k9, Option.bind_some]
  refine Ok_b (C_kind C) (fun v6 h6 => ?_)
  have z261 : (261 : Int32).toInt = 261 := rfl
  have z14 : (14 : Int32).toInt = 14 := rfl
  have z0 : (0 : Int32).toInt = 0 := rfl
  have kr : 0 ≤ k_kind T x.1 ∧ k_kind T x.1 ≤ 282 := by
    unfold k_kind
    split
    · omega
    · split
      · have := k_w_r (T := T) (p := x.1)
        omega
      · split
        · omega
        · split
          · split <;> omega
          · rename_i h1 _ _ _
            have : n_ca T x.1 = n_b T x.1 &&& 255 := by
              unfold n_ca
              rw [if_pos (by omega)]
            rw [this]
            have := i_andc (a := n_b T x.1) (m := (255 : Int32)) (n := 255) rfl (by decide)
            omega
  have a6 := i_subc (x := v6) (c := (261 : Int32)) (n := 261) rfl (by omega) (by omega)
  -- one that isn't a WORD
  have num : ¬ (261 ≤ k_kind T x.1 ∧ k_kind T x.1 ≤ 274) → Ok (F_X7_readValue_b49 (some 148) v3 M) (c_P T M (s_val T x) x.1 c) := by
    intro hw
    delta F_X7_readValue_b49 F_X7_readValue_b67
    rw [t_gR k1 r0, Option.bind_some, t_gO k9, Option.bind_some]
    refine Ok_b (C_number C f0 (by decide) (by decide)) (fun y z => ?_)
    obtain ⟨v, M4⟩ := y
    obtain ⟨n1, n2, n3⟩ := z
    dsimp only at n1 n2 n3 ⊢
    -- behind a FAULT
    have bad : ∀ {e : Nat}, c_Fr M M4 → c_Y T M4 e → s_val T x = .inl e → Ok ((gO 7 M4 (some 148)).bind fun i5 => (F_X7_put (some i5) ((0 : Int32) ||| (v <<< ((4 : Int32) &&& 31))) M4).bind fun M6 => (gO 7 M6 (some i5)).bind fun i1 => (F_X7_countValue (some i1) v3 M6).bind fun M2 => some M2) (c_P T M (s_val T x) x.1 c) := by
      intro e f Y hv9
      obtain ⟨p4, C4⟩ := Y.1
      rw [t_gO (z_148 (z_CL C4)).1.1.1, Option.bind_some]
      refine Ok_b (C_putY Y) (fun M6 z => ?_)
      obtain ⟨p6, C6⟩ := z.2.1
      rw [t_gO (z_148 (z_CL C6)).1.1.1, Option.bind_some]
      refine Ok_b (C_countY z.2) (fun M7 z7 => Ok_s ⟨c_tr f (c_tr z.1 z7.1), ?_⟩)
      rw [hv9]
      exact z7.2
    by_cases cD : n_D T x.1 = true
    · have hlt : x.1 < n_s T := (of_decide_eq_true cD).1
      by_cases cO : n_ok T x.1 0 99999 = true
      · obtain ⟨ev, C4, f4⟩ := n1 ⟨cD, cO⟩
        have kg := k_go_r hlt
        have X4 : c_X T M4 (k_go T x.1, x.2) (c + 1) := c_X57 X (z_57a f4) C4 (by rw [f4.2 131 7 (by omega)]; exact f0) (by have := X.2.2.2; omega)
        rw [t_gO (z_148 (z_CL C4)).1.1.1, Option.bind_some]
        refine Ok_b (C_put (a := (0, n_v T x.1)) X4 (by rw [ev]; rfl)) (fun M6 z => ?_)
        rw [t_gO (z_148 (z_CL z.2.1.1)).1.1.1, Option.bind_some]
        refine Ok_b (C_count z.2 h3 (by omega)) (fun M7 z7 => Ok_s ⟨c_tr (c_57 (z_57a f4)) (c_tr z.1 z7.1), ?_⟩)
        have es : s_val T x = if x.2.1 = 60 then .inl (1 + 8 * x.1 + 3) else .inr (k_go T x.1, x.2.1 + 1, (0, n_v T x.1) :: x.2.2) := by
          unfold s_val
          rw [if_pos cD, if_pos cO]
        rw [es]
        by_cases c60 : x.2.1 = 60
        · rw [if_pos c60]
          exact z7.2.1 c60
        · rw [if_neg c60]
          exact ⟨z7.2.2 c60, by show x.1 ≤ k_go T x.1; omega⟩
      · obtain ⟨ev, C4, f4, g4⟩ := n2 ⟨cD, cO⟩
        refine bad (e := 1 + 8 * x.1 + 1) (c_57 (z_57b f4)) (c_Y57 X (z_57b f4) C4 g4 (by omega)) ?_
        unfold s_val
        rw [if_pos cD, if_neg cO]
    · obtain ⟨ev, C4, f4, g4⟩ := n3 cD
      refine bad (e := 1 + 8 * x.1 + 0) (c_57 (z_57b f4)) (c_Y57 X (z_57b f4) C4 g4 (by omega)) ?_
      unfold s_val
      rw [if_neg cD, if_neg hw]
  refine Ok_i (fun c1 => num (by have := i_lt c1; omega)) (fun c1 => ?_)
  have d1 := i_nlt c1
  refine Ok_i (fun c2 => num (by have := i_le c2; omega)) (fun c2 => ?_)
  have d2 := i_nle c2
  have hw : 261 ≤ k_kind T x.1 ∧ k_kind T x.1 ≤ 274 := by omega
  have hlt := k_kind_lt (T := T) (p := x.1) (by omega)
  have kg := k_go_r hlt
  have nD : ¬ n_D T x.1 = true := fun z => by have := k_kind_D.mpr z; omega
  rw [Option.bind_some, t_gO k9, Option.bind_some]
  refine Ok_b (C_next C) (fun M9 z9 => ?_)
  obtain ⟨C9, f9⟩ := z9
  have X9 : c_X T M9 (k_go T x.1, x.2) (c + 1) := c_X57 X (z_57a f9) C9 (by rw [f9.2 131 7 (by omega)]; exact f0) (by have := X.2.2.2; omega)
  have ev : v6 - (261 : Int32) = Int32.ofInt (k_kind T x.1 - 261) := by
    rw [show k_kind T x.1 - 261 = (v6 - (261 : Int32)).toInt by omega, Int32.ofInt_toInt]
  rw [t_gO (z_148 (z_CL C9)).1.1.1, Option.bind_some]
  refine Ok_b (C_put (a := (1, Int32.ofInt (k_kind T x.1 - 261))) X9 (by rw [ev]; rfl)) (fun M6 z => ?_)
  delta F_X7_readValue_b67
  rw [t_gO (z_148 (z_CL z.2.1.1)).1.1.1, Option.bind_some]
  refine Ok_b (C_count z.2 h3 (by omega)) (fun M7 z7 => Ok_s ⟨c_tr (c_57 (z_57a f9)) (c_tr z.1 z7.1), ?_⟩)
  have es : s_val T x = if x.2.1 = 60 then .inl (1 + 8 * x.1 + 3) else .inr (k_go T x.1, x.2.1 + 1, (1, Int32.ofInt (k_kind T x.1 - 261)) :: x.2.2) := by
    unfold s_val
    rw [if_neg nD, if_pos hw]
  rw [es]
  by_cases c60 : x.2.1 = 60
  · rw [if_pos c60]
    exact z7.2.1 c60
  · rw [if_neg c60]
    exact ⟨z7.2.2 c60, by show x.1 ≤ k_go T x.1; omega⟩
/-- joiners, as numbers -/
theorem C_joinerOf {M : gM} {l0 l1 : Int32} {what : Nat} {k : Int} (h0 : l0.toInt = (what : Int)) (h1 : l1.toInt = k) : F_X7_joinerOf l0 l1 M = some (if s_jo what k = 0 then -1 else Int32.ofNat (s_jo what k)) := by
  delta F_X7_joinerOf F_X7_joinerOf_b0
  unfold s_jo
  have t : ∀ (c : Int32) (n : Int), c.toInt = n → ((l1 = c) ↔ (k = n)) := fun c n hc => ⟨fun e => by rw [← h1, e, hc], fun e => Int32.toInt_inj.mp (by rw [h1, hc, e])⟩
  have u : ∀ (c : Int32) (n : Nat), c.toInt = (n : Int) → ((l0 = c) ↔ (what = n)) := fun c n hc => ⟨fun e => by have : (what : Int) = (n : Int) := (by rw [← h0, e, hc]); omega, fun e => Int32.toInt_inj.mp (by rw [h0, hc, e])⟩
  simp only [t 37 37 rfl, t 42 42 rfl, t 43 43 rfl, t 45 45 rfl, t 47 47 rfl, t 281 281 rfl, t 282 282 rfl, u 3 3 rfl, u 2 2 rfl, u 1 1 rfl, u 0 0 rfl]
  by_cases e0 : k = 37
  · simp only [if_pos e0]
    by_cases w : what = 3
    · simp only [if_pos w]
      rfl
    · simp only [if_neg w]
      rfl
  simp only [if_neg e0]
  by_cases e1 : k = 42
  · simp only [if_pos e1]
    by_cases w : what = 3
    · simp only [if_pos w]
      rfl
    · simp only [if_neg w]
      rfl
  simp only [if_neg e1]
  by_cases e2 : k = 43
  · simp only [if_pos e2]
    by_cases w : what = 2
    · simp only [if_pos w]
      rfl
    · simp only [if_neg w]
      rfl
  simp only [if_neg e2]
  by_cases e3 : k = 45
  · simp only [if_pos e3]
    by_cases w : what = 2
    · simp only [if_pos w]
      rfl
    · simp only [if_neg w]
      rfl
  simp only [if_neg e3]
  by_cases e4 : k = 47
  · simp only [if_pos e4]
    by_cases w : what = 3
    · simp only [if_pos w]
      rfl
    · simp only [if_neg w]
      rfl
  simp only [if_neg e4]
  by_cases e5 : k = 281
  · simp only [if_pos e5]
    by_cases w : what = 1
    · simp only [if_pos w]
      rfl
    · simp only [if_neg w]
      rfl
  simp only [if_neg e5]
  by_cases e6 : k = 282
  · simp only [if_pos e6]
    by_cases w : what = 0
    · simp only [if_pos w]
      rfl
    · simp only [if_neg w]
      rfl
  simp only [if_neg e6]
  rfl
theorem C_comparingOf {M : gM} {l : Int32} {k : Int} (h1 : l.toInt = k) : F_X7_comparingOf l M = some (if s_co k = 0 then -1 else Int32.ofNat (s_co k)) := by
  delta F_X7_comparingOf F_X7_comparingOf_b0
  unfold s_co
  have t : ∀ (c : Int32) (n : Int), c.toInt = n → ((l = c) ↔ (k = n)) := fun c n hc => ⟨fun e => by rw [← h1, e, hc], fun e => Int32.toInt_inj.mp (by rw [h1, hc, e])⟩
  simp only [t 60 60 rfl, t 61 61 rfl, t 62 62 rfl, t 258 258 rfl, t 259 259 rfl]
  by_cases e0 : k = 60
  · simp only [if_pos e0]
    rfl
  simp only [if_neg e0]
  by_cases e1 : k = 61
  · simp only [if_pos e1]
    rfl
  simp only [if_neg e1]
  by_cases e2 : k = 62
  · simp only [if_pos e2]
    rfl
  simp only [if_neg e2]
  by_cases e3 : k = 258
  · simp only [if_pos e3]
    rfl
  simp only [if_neg e3]
  by_cases e4 : k = 259
  · simp only [if_pos e4]
    rfl
  simp only [if_neg e4]
  rfl
theorem s_jo_r {what : Nat} {k : Int} : s_jo what k ≤ 13 := by
  unfold s_jo
  repeat' split
  all_goals omega
theorem s_co_r {k : Int} : s_co k ≤ 11 := by
  unfold s_co
  repeat' split
  all_goals omega
theorem s_jo_256 {what : Nat} {k : Int} (h : s_jo what k ≠ 0) : k ≠ 256 := by
  intro e
  subst e
  exact h rfl
theorem s_co_256 {k : Int} (h : s_co k ≠ 0) : k ≠ 256 := by
  intro e
  subst e
  exact h rfl
theorem e_c0 : ∀ n : Fin 15, e_c (n.val, 0) = Int32.ofNat n.val := by decide +kernel
theorem e_cn {n : Nat} (h : n ≤ 14) : e_c (n, 0) = Int32.ofNat n := e_c0 ⟨n, by omega⟩
theorem i_nneg : ∀ n : Fin 15, ¬ Int32.ofNat n.val = -1 := by decide +kernel
/-- the sign that compares -/
theorem C_readComparing {T M : gM} {x : sS} {c : Nat} (X : c_X T M x c) : Ok (F_X7_readComparing (some 148) M) (fun r => c_Fr M r.2 ∧
    (s_co (k_kind T x.1) = 0 → c_Y T r.2 (1 + 8 * x.1 + 0)) ∧ (s_co (k_kind T x.1) ≠ 0 → r.1 = Int32.ofNat (s_co (k_kind T x.1)) ∧ (x.2.1 = 60 → c_Y T r.2 (1 + 8 * x.1 + 3)) ∧ (x.2.1 ≠ 60 → c_X T r.2 (k_go T x.1, x.2.1 + 1, x.2.2) (c + 1)))) := by
  have C := X.1.1
  have f0 := X.1.2
  have hs := z_Cs C
  obtain ⟨⟨⟨k1, k2⟩, _⟩, ⟨⟨r0, r1⟩, _⟩⟩ := z_148 (z_CL C)
  have k9 := z_k131 C
  delta F_X7_readComparing F_X7_readComparing_b0 F_X7_readComparing_b31
  rw [t_gR k1 r0, Option.bind_some, t_gO k9, Option.bind_some]
  refine Ok_b (C_kind C) (fun v3 h3 => ?_)
  rw [C_comparingOf h3, Option.bind_some]
  by_cases c0 : s_co (k_kind T x.1) = 0
  · rw [if_pos c0, if_pos rfl, Option.bind_some, Option.bind_some, t_gO k9, Option.bind_some]
    refine Ok_b (C_place C) (fun v8 h8 => ?_)
    rw [Option.bind_some, C_blame k9, Option.bind_some]
    obtain ⟨c1, c2⟩ := n_bl_r (l1 := v8) (l2 := (0 : Int32)) C
    have e0 := n_bl_0 (M := M) (l1 := v8) (l2 := (0 : Int32)) (q := x.1) (d := 0) f0 h8 (by omega) rfl (by decide)
    have Y := c_Y57 X (z_57b c2) c1 e0 (by omega)
    generalize n_bl M v8 0 = M10 at c1 c2 Y ⊢
    obtain ⟨⟨⟨k1, k2⟩, _⟩, ⟨⟨r0, r1⟩, _⟩⟩ := z_148 (z_CL c1)
    have k9 := z_k131 c1
    rw [t_gR k1 r0, Option.bind_some, t_gO k9, Option.bind_some]
    refine Ok_b (C_place c1) (fun v3 h3 => ?_)
    rw [t_gO k1, Option.bind_some]
    refine Ok_b (C_countY Y) (fun M5 z5 => ?_)
    obtain ⟨p5, C5⟩ := z5.2.1
    obtain ⟨⟨⟨k1, k2⟩, _⟩, ⟨⟨r0, r1⟩, _⟩⟩ := z_148 (z_CL C5)
    have k9 := z_k131 C5
    rw [t_gR k1 r0, Option.bind_some, t_gO k9, Option.bind_some]
    refine Ok_b (C_next C5) (fun M8 z8 => ?_)
    exact Ok_s ⟨c_tr (c_57 (z_57b c2)) (c_tr z5.1 (c_57 (z_57a z8.2))), fun _ => c_YY z5.2 (z_57a z8.2) z8.1 (z8.2.2 131 7 (by omega)), fun h => absurd c0 h⟩
  · have hlt := k_kind_lt (s_co_256 c0)
    have kg := k_go_r hlt
    rw [if_neg c0, if_neg (i_nneg ⟨s_co (k_kind T x.1), by have := s_co_r (k := k_kind T x.1); omega⟩), Option.bind_some, t_gO k9, Option.bind_some]
    refine Ok_b (C_place C) (fun v8 h8 => ?_)
    rw [t_gO k1, Option.bind_some]
    refine Ok_b (C_count X h8 (by omega)) (fun M5 z5 => ?_)
    by_cases c60 : x.2.1 = 60
    · have Y := z5.2.1 c60
      obtain ⟨p5, C5⟩ := Y.1
      obtain ⟨⟨⟨k1, k2⟩, _⟩, ⟨⟨r0, r1⟩, _⟩⟩ := z_148 (z_CL C5)
      have k9 := z_k131 C5
      rw [t_gR k1 r0, Option.bind_some, t_gO k9, Option.bind_some]
      refine Ok_b (C_next C5) (fun M8 z8 => ?_)
      exact Ok_s ⟨c_tr z5.1 (c_57 (z_57a z8.2)), fun h => absurd h c0, fun _ => ⟨rfl, fun _ => c_YY Y (z_57a z8.2) z8.1 (z8.2.2 131 7 (by omega)), fun h => absurd c60 h⟩⟩
    · have X5 := z5.2.2 c60
      have C5 := X5.1.1
      obtain ⟨⟨⟨k1, k2⟩, _⟩, ⟨⟨r0, r1⟩, _⟩⟩ := z_148 (z_CL C5)
      have k9 := z_k131 C5
      rw [t_gR k1 r0, Option.bind_some, t_gO k9, Option.bind_some]
      refine Ok_b (C_next C5) (fun M8 z8 => ?_)
      refine Ok_s ⟨c_tr z5.1 (c_57 (z_57a z8.2)), fun h => absurd h c0, fun _ => ⟨rfl, fun h => absurd h c60, fun _ => ?_⟩⟩
      exact c_X57 X5 (z_57a z8.2) z8.1 (by rw [z8.2.2 131 7 (by omega)]; exact X5.1.2) (by have := X.2.2.2; show x.2.2.length + (c + 1) ≤ k_go T x.1; omega)
