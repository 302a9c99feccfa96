-- 67.cread
/-! the class reads as the document says -/
theorem k_go_r {T : gM} {p : Nat} (h : p < n_s T) : p < k_go T p ∧ k_go T p ≤ n_s T := by
  unfold k_go
  rw [if_pos h]
  exact k_nx_r h
theorem k_go_le {T : gM} {p : Nat} : p ≤ k_go T p := by
  unfold k_go
  by_cases h : p < n_s T
  · rw [if_pos h]
    have := k_nx_r h
    omega
  · rw [if_neg h]
    exact Nat.le_refl _
theorem k_kind_lt {T : gM} {p : Nat} (h : k_kind T p ≠ 256) : p < n_s T := by
  rcases Nat.lt_or_ge p (n_s T) with e | e
  · exact e
  · exfalso
    apply h
    unfold k_kind
    rw [if_pos e]
theorem c_Pw {T M M1 M' : gM} {r : s_R} {p q c : Nat} (f : c_Fr M M1) (h : c_P T M1 r q c M') (hp : p ≤ q) : c_P T M r p c M' := by
  refine ⟨c_tr f h.1, ?_⟩
  have h2 := h.2
  cases r with
  | inl e => exact h2
  | inr y => exact ⟨h2.1, by have := h2.2; omega⟩
theorem C_readValue {T M : gM} {x : sS} {c : Nat} (X : c_X T M x c) : Ok (F_X7_readValue (some 148) M) (c_P T M (s_val T x) x.1 c) := by
  have C := X.1.1
  have f0 := X.1.2
  have hs := z_Cs C
  have hv := X.2.1.2
  obtain ⟨⟨⟨k1, k2⟩, _⟩, ⟨⟨r0, r1⟩, _⟩⟩ := z_148 (z_CL C)
  have k9 := z_k131 C
  delta F_X7_readValue F_X7_readValue_b0
  rw [t_gR k1 r0, Option.bind_some, t_gO k9, Option.bind_some]
  refine Ok_b (C_place C) (fun v3 h3 => ?_)
  rw [Option.bind_some, t_gO k9, Option.bind_some]
  refine Ok_b (C_kind C) (fun v6 h6 => ?_)
  have z261 : (261 : Int32).toInt = 261 := rfl
  have z14 : (14 : Int32).toInt = 14 := rfl
  have z0 : (0 : Int32).toInt = 0 := rfl
  have kr : 0 ≤ k_kind T x.1 ∧ k_kind T x.1 ≤ 282 := by
    unfold k_kind
    split
    · omega
    · split
      · have := k_w_r (T := T) (p := x.1)
        omega
      · split
        · omega
        · split
          · split <;> omega
          · rename_i h1 _ _ _
            have : n_ca T x.1 = n_b T x.1 &&& 255 := by
              unfold n_ca
              rw [if_pos (by omega)]
            rw [this]
            have := i_andc (a := n_b T x.1) (m := (255 : Int32)) (n := 255) rfl (by decide)
            omega
  have a6 := i_subc (x := v6) (c := (261 : Int32)) (n := 261) rfl (by omega) (by omega)
  -- one that isn't a WORD
  have num : ¬ (261 ≤ k_kind T x.1 ∧ k_kind T x.1 ≤ 274) → Ok (F_X7_readValue_b49 (some 148) v3 M) (c_P T M (s_val T x) x.1 c) := by
    intro hw
    delta F_X7_readValue_b49 F_X7_readValue_b67
    rw [t_gR k1 r0, Option.bind_some, t_gO k9, Option.bind_some]
    refine Ok_b (C_number C f0 (by decide) (by decide)) (fun y z => ?_)
    obtain ⟨v, M4⟩ := y
    obtain ⟨n1, n2, n3⟩ := z
    dsimp only at n1 n2 n3 ⊢
    -- behind a FAULT
    have bad : ∀ {e : Nat}, c_Fr M M4 → c_Y T M4 e → s_val T x = .inl e → Ok ((gO 7 M4 (some 148)).bind fun i5 => (F_X7_put (some i5) ((0 : Int32) ||| (v <<< ((4 : Int32) &&& 31))) M4).bind fun M6 => (gO 7 M6 (some i5)).bind fun i1 => (F_X7_countValue (some i1) v3 M6).bind fun M2 => some M2) (c_P T M (s_val T x) x.1 c) := by
      intro e f Y hv9
      obtain ⟨p4, C4⟩ := Y.1
      rw [t_gO (z_148 (z_CL C4)).1.1.1, Option.bind_some]
      refine Ok_b (C_putY Y) (fun M6 z => ?_)
      obtain ⟨p6, C6⟩ := z.2.1
      rw [t_gO (z_148 (z_CL C6)).1.1.1, Option.bind_some]
      refine Ok_b (C_countY z.2) (fun M7 z7 => Ok_s ⟨c_tr f (c_tr z.1 z7.1), ?_⟩)
      rw [hv9]
      exact z7.2
    by_cases cD : n_D T x.1 = true
    · have hlt : x.1 < n_s T := (of_decide_eq_true cD).1
      by_cases cO : n_ok T x.1 0 99999 = true
      · obtain ⟨ev, C4, f4⟩ := n1 ⟨cD, cO⟩
        have kg := k_go_r hlt
        have X4 : c_X T M4 (k_go T x.1, x.2) (c + 1) := c_X57 X (z_57a f4) C4 (by rw [f4.2 131 7 (by omega)]; exact f0) (by have := X.2.2.2; omega)
        rw [t_gO (z_148 (z_CL C4)).1.1.1, Option.bind_some]
        refine Ok_b (C_put (a := (0, n_v T x.1)) X4 (by rw [ev]; rfl)) (fun M6 z => ?_)
        rw [t_gO (z_148 (z_CL z.2.1.1)).1.1.1, Option.bind_some]
        refine Ok_b (C_count z.2 h3 (by omega)) (fun M7 z7 => Ok_s ⟨c_tr (c_57 (z_57a f4)) (c_tr z.1 z7.1), ?_⟩)
        have es : s_val T x = if x.2.1 = 60 then .inl (1 + 8 * x.1 + 3) else .inr (k_go T x.1, x.2.1 + 1, (0, n_v T x.1) :: x.2.2) := by
          unfold s_val
          rw [if_pos cD, if_pos cO]
        rw [es]
        by_cases c60 : x.2.1 = 60
        · rw [if_pos c60]
          exact z7.2.1 c60
        · rw [if_neg c60]
          exact ⟨z7.2.2 c60, by show x.1 ≤ k_go T x.1; omega⟩
      · obtain ⟨ev, C4, f4, g4⟩ := n2 ⟨cD, cO⟩
        refine bad (e := 1 + 8 * x.1 + 1) (c_57 (z_57b f4)) (c_Y57 X (z_57b f4) C4 g4 (by omega)) ?_
        unfold s_val
        rw [if_pos cD, if_neg cO]
    · obtain ⟨ev, C4, f4, g4⟩ := n3 cD
      refine bad (e := 1 + 8 * x.1 + 0) (c_57 (z_57b f4)) (c_Y57 X (z_57b f4) C4 g4 (by omega)) ?_
      unfold s_val
      rw [if_neg cD, if_neg hw]
  refine Ok_i (fun c1 => num (by have := i_lt c1; omega)) (fun c1 => ?_)
  have d1 := i_nlt c1
  refine Ok_i (fun c2 => num (by have := i_le c2; omega)) (fun c2 => ?_)
  have d2 := i_nle c2
  have hw : 261 ≤ k_kind T x.1 ∧ k_kind T x.1 ≤ 274 := by omega
  have hlt := k_kind_lt (T := T) (p := x.1) (by omega)
  have kg := k_go_r hlt
  have nD : ¬ n_D T x.1 = true := fun z => by have := k_kind_D.mpr z; omega
  rw [Option.bind_some, t_gO k9, Option.bind_some]
  refine Ok_b (C_next C) (fun M9 z9 => ?_)
  obtain ⟨C9, f9⟩ := z9
  have X9 : c_X T M9 (k_go T x.1, x.2) (c + 1) := c_X57 X (z_57a f9) C9 (by rw [f9.2 131 7 (by omega)]; exact f0) (by have := X.2.2.2; omega)
  have ev : v6 - (261 : Int32) = Int32.ofInt (k_kind T x.1 - 261) := by
    rw [show k_kind T x.1 - 261 = (v6 - (261 : Int32)).toInt by omega, Int32.ofInt_toInt]
  rw [t_gO (z_148 (z_CL C9)).1.1.1, Option.bind_some]
  refine Ok_b (C_put (a := (1, Int32.ofInt (k_kind T x.1 - 261))) X9 (by rw [ev]; rfl)) (fun M6 z => ?_)
  delta F_X7_readValue_b67
  rw [t_gO (z_148 (z_CL z.2.1.1)).1.1.1, Option.bind_some]
  refine Ok_b (C_count z.2 h3 (by omega)) (fun M7 z7 => Ok_s ⟨c_tr (c_57 (z_57a f9)) (c_tr z.1 z7.1), ?_⟩)
  have es : s_val T x = if x.2.1 = 60 then .inl (1 + 8 * x.1 + 3) else .inr (k_go T x.1, x.2.1 + 1, (1, Int32.ofInt (k_kind T x.1 - 261)) :: x.2.2) := by
    unfold s_val
    rw [if_neg nD, if_pos hw]
  rw [es]
  by_cases c60 : x.2.1 = 60
  · rw [if_pos c60]
    exact z7.2.1 c60
  · rw [if_neg c60]
    exact ⟨z7.2.2 c60, by show x.1 ≤ k_go T x.1; omega⟩
/-- joiners, as numbers -/
theorem C_joinerOf {M : gM} {l0 l1 : Int32} {what : Nat} {k : Int} (h0 : l0.toInt = (what : Int)) (h1 : l1.toInt = k) : F_X7_joinerOf l0 l1 M = some (if s_jo what k = 0 then -1 else Int32.ofNat (s_jo what k)) := by
  delta F_X7_joinerOf F_X7_joinerOf_b0
  unfold s_jo
  have t : ∀ (c : Int32) (n : Int), c.toInt = n → ((l1 = c) ↔ (k = n)) := fun c n hc => ⟨fun e => by rw [← h1, e, hc], fun e => Int32.toInt_inj.mp (by rw [h1, hc, e])⟩
  have u : ∀ (c : Int32) (n : Nat), c.toInt = (n : Int) → ((l0 = c) ↔ (what = n)) := fun c n hc => ⟨fun e => by have : (what : Int) = (n : Int) := (by rw [← h0, e, hc]); omega, fun e => Int32.toInt_inj.mp (by rw [h0, hc, e])⟩
  simp only [t 37 37 rfl, t 42 42 rfl, t 43 43 rfl, t 45 45 rfl, t 47 47 rfl, t 281 281 rfl, t 282 282 rfl, u 3 3 rfl, u 2 2 rfl, u 1 1 rfl, u 0 0 rfl]
  by_cases e0 : k = 37
  · simp only [if_pos e0]
    by_cases w : what = 3
    · simp only [if_pos w]
      rfl
    · simp only [if_neg w]
      rfl
  simp only [if_neg e0]
  by_cases e1 : k = 42
  · simp only [if_pos e1]
    by_cases w : what = 3
    · simp only [if_pos w]
      rfl
    · simp only [if_neg w]
      rfl
  simp only [if_neg e1]
  by_cases e2 : k = 43
  · simp only [if_pos e2]
    by_cases w : what = 2
    · simp only [if_pos w]
      rfl
    · simp only [if_neg w]
      rfl
  simp only [if_neg e2]
  by_cases e3 : k = 45
  · simp only [if_pos e3]
    by_cases w : what = 2
    · simp only [if_pos w]
      rfl
    · simp only [if_neg w]
      rfl
  simp only [if_neg e3]
  by_cases e4 : k = 47
  · simp only [if_pos e4]
    by_cases w : what = 3
    · simp only [if_pos w]
      rfl
    · simp only [if_neg w]
      rfl
  simp only [if_neg e4]
  by_cases e5 : k = 281
  · simp only [if_pos e5]
    by_cases w : what = 1
    · simp only [if_pos w]
      rfl
    · simp only [if_neg w]
      rfl
  simp only [if_neg e5]
  by_cases e6 : k = 282
  · simp only [if_pos e6]
    by_cases w : what = 0
    · simp only [if_pos w]
      rfl
    · simp only [if_neg w]
      rfl
  simp only [if_neg e6]
  rfl
theorem C_comparingOf {M : gM} {l : Int32} {k : Int} (h1 : l.toInt = k) : F_X7_comparingOf l M = some (if s_co k = 0 then -1 else Int32.ofNat (s_co k)) := by
  delta F_X7_comparingOf F_X7_comparingOf_b0
  unfold s_co
  have t : ∀ (c : Int32) (n : Int), c.toInt = n → ((l = c) ↔ (k = n)) := fun c n hc => ⟨fun e => by rw [← h1, e, hc], fun e => Int32.toInt_inj.mp (by rw [h1, hc, e])⟩
  simp only [t 60 60 rfl, t 61 61 rfl, t 62 62 rfl, t 258 258 rfl, t 259 259 rfl]
  by_cases e0 : k = 60
  · simp only [if_pos e0]
    rfl
  simp only [if_neg e0]
  by_cases e1 : k = 61
  · simp only [if_pos e1]
    rfl
  simp only [if_neg e1]
  by_cases e2 : k = 62
  · simp only [if_pos e2]
    rfl
  simp only [if_neg e2]
  by_cases e3 : k = 258
  · simp only [if_pos e3]
    rfl
  simp only [if_neg e3]
  by_cases e4 : k = 259
  · simp only [if_pos e4]
    rfl
  simp only [if_neg e4]
  rfl
theorem s_jo_r {what : Nat} {k : Int} : s_jo what k ≤ 13 := by
  unfold s_jo
  repeat' split
  all_goals omega
theorem s_co_r {k : Int} : s_co k ≤ 11 := by
  unfold s_co
  repeat' split
  all_goals omega
theorem s_jo_256 {what : Nat} {k : Int} (h : s_jo what k ≠ 0) : k ≠ 256 := by
  intro e
  subst e
  exact h rfl
theorem s_co_256 {k : Int} (h : s_co k ≠ 0) : k ≠ 256 := by
  intro e
  subst e
  exact h rfl
theorem e_c0 : ∀ n : Fin 15, e_c (n.val, 0) = Int32.ofNat n.val := by decide +kernel
theorem e_cn {n : Nat} (h : n ≤ 14) : e_c (n, 0) = Int32.ofNat n := e_c0 ⟨n, by omega⟩
theorem i_nneg : ∀ n : Fin 15, ¬ Int32.ofNat n.val = -1 := by decide +kernel
/-- the sign that compares -/
theorem C_readComparing {T M : gM} {x : sS} {c : Nat} (X : c_X T M x c) : Ok (F_X7_readComparing (some 148) M) (fun r => c_Fr M r.2 ∧
    (s_co (k_kind T x.1) = 0 → c_Y T r.2 (1 + 8 * x.1 + 0)) ∧ (s_co (k_kind T x.1) ≠ 0 → r.1 = Int32.ofNat (s_co (k_kind T x.1)) ∧ (x.2.1 = 60 → c_Y T r.2 (1 + 8 * x.1 + 3)) ∧ (x.2.1 ≠ 60 → c_X T r.2 (k_go T x.1, x.2.1 + 1, x.2.2) (c + 1)))) := by
  have C := X.1.1
  have f0 := X.1.2
  have hs := z_Cs C
  obtain ⟨⟨⟨k1, k2⟩, _⟩, ⟨⟨r0, r1⟩, _⟩⟩ := z_148 (z_CL C)
  have k9 := z_k131 C
  delta F_X7_readComparing F_X7_readComparing_b0 F_X7_readComparing_b31
  rw [t_gR k1 r0, Option.bind_some, t_gO k9, Option.bind_some]
  refine Ok_b (C_kind C) (fun v3 h3 => ?_)
  rw [C_comparingOf h3, Option.bind_some]
  by_cases c0 : s_co (k_kind T x.1) = 0
  · rw [if_pos c0, if_pos rfl, Option.bind_some, Option.bind_some, t_gO k9, Option.bind_some]
    refine Ok_b (C_place C) (fun v8 h8 => ?_)
    rw [Option.bind_some, C_blame k9, Option.bind_some]
    obtain ⟨c1, c2⟩ := n_bl_r (l1 := v8) (l2 := (0 : Int32)) C
    have e0 := n_bl_0 (M := M) (l1 := v8) (l2 := (0 : Int32)) (q := x.1) (d := 0) f0 h8 (by omega) rfl (by decide)
    have Y := c_Y57 X (z_57b c2) c1 e0 (by omega)
    generalize n_bl M v8 0 = M10 at c1 c2 Y ⊢
    obtain ⟨⟨⟨k1, k2⟩, _⟩, ⟨⟨r0, r1⟩, _⟩⟩ := z_148 (z_CL c1)
    have k9 := z_k131 c1
    rw [t_gR k1 r0, Option.bind_some, t_gO k9, Option.bind_some]
    refine Ok_b (C_place c1) (fun v3 h3 => ?_)
    rw [t_gO k1, Option.bind_some]
    refine Ok_b (C_countY Y) (fun M5 z5 => ?_)
    obtain ⟨p5, C5⟩ := z5.2.1
    obtain ⟨⟨⟨k1, k2⟩, _⟩, ⟨⟨r0, r1⟩, _⟩⟩ := z_148 (z_CL C5)
    have k9 := z_k131 C5
    rw [t_gR k1 r0, Option.bind_some, t_gO k9, Option.bind_some]
    refine Ok_b (C_next C5) (fun M8 z8 => ?_)
    exact Ok_s ⟨c_tr (c_57 (z_57b c2)) (c_tr z5.1 (c_57 (z_57a z8.2))), fun _ => c_YY z5.2 (z_57a z8.2) z8.1 (z8.2.2 131 7 (by omega)), fun h => absurd c0 h⟩
  · have hlt := k_kind_lt (s_co_256 c0)
    have kg := k_go_r hlt
    rw [if_neg c0, if_neg (i_nneg ⟨s_co (k_kind T x.1), by have := s_co_r (k := k_kind T x.1); omega⟩), Option.bind_some, t_gO k9, Option.bind_some]
    refine Ok_b (C_place C) (fun v8 h8 => ?_)
    rw [t_gO k1, Option.bind_some]
    refine Ok_b (C_count X h8 (by omega)) (fun M5 z5 => ?_)
    by_cases c60 : x.2.1 = 60
    · have Y := z5.2.1 c60
      obtain ⟨p5, C5⟩ := Y.1
      obtain ⟨⟨⟨k1, k2⟩, _⟩, ⟨⟨r0, r1⟩, _⟩⟩ := z_148 (z_CL C5)
      have k9 := z_k131 C5
      rw [t_gR k1 r0, Option.bind_some, t_gO k9, Option.bind_some]
      refine Ok_b (C_next C5) (fun M8 z8 => ?_)
      exact Ok_s ⟨c_tr z5.1 (c_57 (z_57a z8.2)), fun h => absurd h c0, fun _ => ⟨rfl, fun _ => c_YY Y (z_57a z8.2) z8.1 (z8.2.2 131 7 (by omega)), fun h => absurd c60 h⟩⟩
    · have X5 := z5.2.2 c60
      have C5 := X5.1.1
      obtain ⟨⟨⟨k1, k2⟩, _⟩, ⟨⟨r0, r1⟩, _⟩⟩ := z_148 (z_CL C5)
      have k9 := z_k131 C5
      rw [t_gR k1 r0, Option.bind_some, t_gO k9, Option.bind_some]
      refine Ok_b (C_next C5) (fun M8 z8 => ?_)
      refine Ok_s ⟨c_tr z5.1 (c_57 (z_57a z8.2)), fun h => absurd h c0, fun _ => ⟨rfl, fun h => absurd h c60, fun _ => ?_⟩⟩
      exact c_X57 X5 (z_57a z8.2) z8.1 (by rw [z8.2.2 131 7 (by omega)]; exact X5.1.2) (by have := X.2.2.2; show x.2.2.length + (c + 1) ≤ k_go T x.1; omega)
-- 68.crec
/-! what is joined, and FACTS -/
theorem s_b_inl {e : Nat} {f : sS → s_R} : s_b (.inl e) f = .inl e := rfl
theorem s_b_inr {x : sS} {f : sS → s_R} : s_b (.inr x) f = f x := rfl
theorem c_Xless {T M : gM} {x : sS} {c c2 : Nat} (X : c_X T M x c) (h : c2 ≤ c) : c_X T M x c2 := ⟨X.1, X.2.1, X.2.2.1, by have := X.2.2.2; omega⟩
theorem C_readComparingY {T M : gM} {e : Nat} (Y : c_Y T M e) : Ok (F_X7_readComparing (some 148) M) (fun r => c_Fr M r.2 ∧ c_Y T r.2 e) := by
  obtain ⟨p, C⟩ := Y.1
  obtain ⟨⟨⟨k1, k2⟩, _⟩, ⟨⟨r0, r1⟩, _⟩⟩ := z_148 (z_CL C)
  have k9 := z_k131 C
  have b31 : ∀ {v : Int32}, Ok (F_X7_readComparing_b31 (some 148) v M) (fun r => c_Fr M r.2 ∧ c_Y T r.2 e) := by
    intro v
    delta F_X7_readComparing_b31
    rw [t_gR k1 r0, Option.bind_some, t_gO k9, Option.bind_some]
    refine Ok_b (C_place C) (fun v3 h3 => ?_)
    rw [t_gO k1, Option.bind_some]
    refine Ok_b (C_countY Y) (fun M5 z5 => ?_)
    obtain ⟨p5, C5⟩ := z5.2.1
    obtain ⟨⟨⟨k1, k2⟩, _⟩, ⟨⟨r0, r1⟩, _⟩⟩ := z_148 (z_CL C5)
    rw [t_gR k1 r0, Option.bind_some, t_gO (z_k131 C5), Option.bind_some]
    refine Ok_b (C_next C5) (fun M8 z8 => ?_)
    exact Ok_s ⟨c_tr z5.1 (c_57 (z_57a z8.2)), c_YY z5.2 (z_57a z8.2) z8.1 (z8.2.2 131 7 (by omega))⟩
  delta F_X7_readComparing F_X7_readComparing_b0
  rw [t_gR k1 r0, Option.bind_some, t_gO k9, Option.bind_some]
  refine Ok_b (C_kind C) (fun v3 h3 => ?_)
  rw [C_comparingOf h3, Option.bind_some]
  refine Ok_i (fun _ => ?_) (fun _ => b31)
  rw [Option.bind_some, Option.bind_some, t_gO k9, Option.bind_some]
  refine Ok_b (C_place C) (fun v8 h8 => ?_)
  rw [Option.bind_some, C_blame k9, Option.bind_some, n_bl_s (c_Yn Y)]
  exact b31
/-- behind a joiner, in a FAULT: it ends -/
theorem C_join_Y {T M : gM} {cJ : Option Nat → Int32 → Int32 → gM → Option gM} {cF : Option Nat → Int32 → gM → Option gM} {n e : Nat} {l1 l2 l3 l4 : Int32} (Y : c_Y T M e) : Ok (F_X7_readJoined_L5 cJ cF (n + 1) (some 148) l1 l2 l3 l4 M) (fun M' => c_Fr M M' ∧ c_Y T M' e) := by
  show Ok (F_X7_readJoined_b5 cJ cF (F_X7_readJoined_L5 cJ cF n) (some 148) l1 l2 l3 l4 M) _
  obtain ⟨p, C⟩ := Y.1
  obtain ⟨⟨⟨k1, k2⟩, _⟩, ⟨⟨r0, r1⟩, _⟩⟩ := z_148 (z_CL C)
  have k9 := z_k131 C
  delta F_X7_readJoined_b5
  refine Ok_i (fun _ => Ok_s ⟨c_rf, Y⟩) (fun _ => ?_)
  rw [t_gR k1 r0, Option.bind_some, t_gO k9, Option.bind_some, C_faulty k9, Option.bind_some, if_neg (c_Yn Y), if_neg (by decide)]
  exact Ok_s ⟨c_rf, Y⟩
theorem C_b66_Y {T M : gM} {cJ : Option Nat → Int32 → Int32 → gM → Option gM} {cF : Option Nat → Int32 → gM → Option gM} {n e what : Nat} {l1 l2 l4 : Int32} (h1 : l1.toInt = (what : Int)) (Y : c_Y T M e) : Ok (F_X7_readJoined_b66 cJ cF (F_X7_readJoined_L5 cJ cF (n + 1)) (some 148) l1 l2 l4 M) (fun M' => c_Fr M M' ∧ c_Y T M' e) := by
  obtain ⟨p, C⟩ := Y.1
  obtain ⟨⟨⟨k1, k2⟩, _⟩, ⟨⟨r0, r1⟩, _⟩⟩ := z_148 (z_CL C)
  have k9 := z_k131 C
  delta F_X7_readJoined_b66
  rw [t_gR k1 r0, Option.bind_some, t_gO k9, Option.bind_some]
  refine Ok_b (C_kind C) (fun v3 h3 => ?_)
  rw [C_joinerOf h1 h3, Option.bind_some]
  refine Ok_i (fun _ => Ok_s ⟨c_rf, Y⟩) (fun _ => ?_)
  rw [Option.bind_some, t_gO k9, Option.bind_some]
  refine Ok_b (C_next C) (fun M7 z => ?_)
  have Y7 := c_YY Y (z_57a z.2) z.1 (z.2.2 131 7 (by omega))
  refine Ok_w (C_join_Y Y7) (fun M' q => ⟨c_tr (c_57 (z_57a z.2)) q.1, q.2⟩)
theorem C_join_L5 {T : gM} {cJ : Option Nat → Int32 → Int32 → gM → Option gM} {cF : Option Nat → Int32 → gM → Option gM} {what : Nat} {l1 l2 : Int32} (h1 : l1.toInt = (what : Int)) (item : sS → s_R)
    (hv : l1 = 3 → ∀ {x : sS} {c : Nat} {M : gM}, c_X T M x c → Ok (F_X7_readValue (some 148) M) (c_P T M (item x) x.1 c))
    (hF : l1 = 1 → ∀ {x : sS} {c : Nat} {M : gM}, c_X T M x c → Ok (cF (some 148) l2 M) (c_P T M (item x) x.1 c))
    (hJ : l1 ≠ 3 → l1 ≠ 1 → ∀ {x : sS} {c : Nat} {M : gM}, c_X T M x c → Ok (cJ (some 148) (l1 + 1) l2 M) (c_P T M (item x) x.1 c)) :
    ∀ (k n i j c : Nat) {l3 l4 : Int32} {x : sS} {M : gM}, c_X T M x (c + (if j = 0 then 0 else 1)) → j ≤ 14 → l3 = (if j = 0 then -1 else Int32.ofNat j) → l4.toInt = (i : Int) → i + k = 402 → n_s T - x.1 + 1 < k → k < n →
      Ok (F_X7_readJoined_L5 cJ cF n (some 148) l1 l2 l3 l4 M) (c_P T M (s_b (item x) (fun y => s_loop T what item k (if j = 0 then y else s_push y (j, 0)))) x.1 c) := by
  intro k
  induction k with
  | zero => intro n i j c l3 l4 x M X hj h3 h4 hi hs hn; omega
  | succ k ih =>
    intro n i j c l3 l4 x M X hj h3 h4 hi hs hn
    obtain ⟨n, rfl⟩ : ∃ m, n = m + 1 := ⟨n - 1, by omega⟩
    show Ok (F_X7_readJoined_b5 cJ cF (F_X7_readJoined_L5 cJ cF n) (some 148) l1 l2 l3 l4 M) _
    have C := X.1.1
    have f0 := X.1.2
    have hsz := z_Cs C
    obtain ⟨⟨⟨k1, k2⟩, _⟩, ⟨⟨r0, r1⟩, _⟩⟩ := z_148 (z_CL C)
    have k9 := z_k131 C
    have z400 : (400 : Int32).toInt = 400 := rfl
    -- behind an item
    have on : ∀ {M1 : gM}, c_P T M (item x) x.1 (c + (if j = 0 then 0 else 1)) M1 → Ok (F_X7_readJoined_b56 cJ cF (F_X7_readJoined_L5 cJ cF n) (some 148) l1 l2 l3 l4 M1) (c_P T M (s_b (item x) (fun y => s_loop T what item (k + 1) (if j = 0 then y else s_push y (j, 0)))) x.1 c) := by
      intro M1 P
      obtain ⟨f1, r1'⟩ := P
      delta F_X7_readJoined_b56
      obtain ⟨m, rfl⟩ : ∃ m, n = m + 1 := ⟨n - 1, by omega⟩
      cases hit : item x with
      | inl e =>
        rw [hit] at r1'
        rw [s_b_inl]
        have Y : c_Y T M1 e := r1'
        obtain ⟨p, C1⟩ := Y.1
        refine Ok_i (fun _ => ?_) (fun _ => ?_)
        · exact Ok_w (C_b66_Y h1 Y) (fun M' q => ⟨c_tr f1 q.1, q.2⟩)
        · rw [t_gO (z_148 (z_CL C1)).1.1.1, Option.bind_some]
          refine Ok_b (C_putY Y) (fun M2 q => ?_)
          exact Ok_w (C_b66_Y h1 q.2) (fun M' q' => ⟨c_tr f1 (c_tr q.1 q'.1), q'.2⟩)
      | inr y =>
        rw [hit] at r1'
        rw [s_b_inr]
        obtain ⟨X1, hp⟩ := r1'
        -- the joiner that waited is put
        have b66 : ∀ {M2 : gM} {y2 : sS}, c_Fr M M2 → c_X T M2 y2 c → y2.1 = y.1 → Ok (F_X7_readJoined_b66 cJ cF (F_X7_readJoined_L5 cJ cF (m + 1)) (some 148) l1 l2 l4 M2) (c_P T M (s_loop T what item (k + 1) y2) x.1 c) := by
          intro M2 y2 f2 X2 ey
          have C2 := X2.1.1
          obtain ⟨⟨⟨k1, k2⟩, _⟩, ⟨⟨r0, r1⟩, _⟩⟩ := z_148 (z_CL C2)
          have k9 := z_k131 C2
          have hs2 := z_Cs C2
          delta F_X7_readJoined_b66
          rw [t_gR k1 r0, Option.bind_some, t_gO k9, Option.bind_some]
          refine Ok_b (C_kind C2) (fun v3 h3' => ?_)
          rw [C_joinerOf h1 h3', Option.bind_some]
          show Ok _ (c_P T M (if s_jo what (k_kind T y2.1) = 0 then .inr y2 else s_b (item (k_go T y2.1, y2.2)) (fun y => s_loop T what item k (s_push y (s_jo what (k_kind T y2.1), 0)))) x.1 c)
          by_cases c0 : s_jo what (k_kind T y2.1) = 0
          · rw [if_pos c0, if_pos c0, if_pos rfl]
            exact Ok_s ⟨f2, X2, by omega⟩
          · have hlt := k_kind_lt (s_jo_256 c0)
            have kg := k_go_r hlt
            have jr := s_jo_r (what := what) (k := k_kind T y2.1)
            rw [if_neg c0, if_neg c0, if_neg (i_nneg ⟨s_jo what (k_kind T y2.1), by omega⟩), Option.bind_some, t_gO k9, Option.bind_some]
            refine Ok_b (C_next C2) (fun M7 z => ?_)
            have X7 : c_X T M7 (k_go T y2.1, y2.2) (c + (if s_jo what (k_kind T y2.1) = 0 then 0 else 1)) := c_X57 X2 (z_57a z.2) z.1 (by rw [z.2.2 131 7 (by omega)]; exact X2.1.2) (by rw [if_neg c0]; have := X2.2.2.2; omega)
            have := ih (m + 1) (i + 1) (s_jo what (k_kind T y2.1)) c (l3 := Int32.ofNat (s_jo what (k_kind T y2.1))) (l4 := l4 + 1) X7 (by omega) (by rw [if_neg c0]) (by rw [show (l4 + 1 : Int32) = Int32.ofNat (i + 1) from n_inc h4 (by omega), i_ofNat (by omega)]) (by omega) (by show n_s T - k_go T y2.1 + 1 < k; omega) (by omega)
            simp only [if_neg c0] at this
            exact Ok_w this (fun M' q => c_Pw (c_tr f2 (c_57 (z_57a z.2))) q (by show x.1 ≤ k_go T y2.1; omega))
        by_cases j0 : j = 0
        · rw [if_pos j0] at h3
          rw [if_pos j0] at X1
          simp only [if_pos j0]
          rw [if_pos h3]
          exact b66 f1 X1 rfl
        · rw [if_neg j0] at h3
          rw [if_neg j0] at X1
          simp only [if_neg j0]
          rw [if_neg (by rw [h3]; exact i_nneg ⟨j, by omega⟩), t_gO (z_148 (z_CL X1.1.1)).1.1.1, Option.bind_some]
          refine Ok_b (C_put (a := (j, 0)) X1 (by rw [h3, e_cn hj])) (fun M2 q => ?_)
          exact b66 (c_tr f1 q.1) q.2 rfl
    delta F_X7_readJoined_b5
    rw [if_neg (fun z => by have := i_lt z; omega), t_gR k1 r0, Option.bind_some, t_gO k9, Option.bind_some, C_faulty k9, Option.bind_some, if_pos f0, if_pos rfl]
    by_cases c3 : l1 = 3
    · rw [if_pos c3, t_gO k1, Option.bind_some]
      exact Ok_b (hv c3 X) (fun M1 P => on P)
    · rw [if_neg c3]
      by_cases c1 : l1 = 1
      · rw [if_pos c1, t_gO k1, Option.bind_some]
        exact Ok_b (hF c1 X) (fun M1 P => on P)
      · rw [if_neg c1, t_gO k1, Option.bind_some]
        exact Ok_b (hJ c3 c1 X) (fun M1 P => on P)
theorem C_rec {T : gM} : ∀ m : Nat, (∀ (what d c : Nat) {l1 l2 : Int32} {x : sS} {M : gM}, what ≤ 3 → d ≤ 10 → 5 * (10 - d) + 6 < m + 2 * what → l1.toInt = (what : Int) → l2.toInt = (d : Int) → c_X T M x c → Ok ((F_rec m).1 (some 148) l1 l2 M) (c_P T M (s_J T what d x) x.1 c)) ∧
    (∀ (d c : Nat) {l2 : Int32} {x : sS} {M : gM}, d ≤ 10 → 5 * (10 - d) + 3 < m → l2.toInt = (d : Int) → c_X T M x c → Ok ((F_rec m).2 (some 148) l2 M) (c_P T M (s_F T d x) x.1 c)) := by
  intro m
  induction m with
  | zero => exact ⟨fun what d c l1 l2 x M h1 h2 h3 => by omega, fun d c l2 x M h1 h2 => by omega⟩
  | succ m ih =>
    obtain ⟨ihJ, ihF⟩ := ih
    refine ⟨fun what d c l1 l2 x M hw hd hr h1 h2 X => ?_, fun d c l2 x M hd hr h2 X => ?_⟩
    · show Ok (F_X7_readJoined_L5 (F_rec m).1 (F_rec m).2 g_fuel (some 148) l1 l2 (-1 : Int32) (0 : Int32) M) _
      have z3 : (3 : Int32).toInt = 3 := rfl
      have z1 : (1 : Int32).toInt = 1 := rfl
      have hsz := z_Cs X.1.1
      have w3 : l1 = 3 ↔ what = 3 := ⟨fun e => by rw [e, z3] at h1; omega, fun e => Int32.toInt_inj.mp (by omega)⟩
      have w1 : l1 = 1 ↔ what = 1 := ⟨fun e => by rw [e, z1] at h1; omega, fun e => Int32.toInt_inj.mp (by omega)⟩
      obtain ⟨item, hitem⟩ : ∃ item : sS → s_R, s_J T what d = s_join T what item ∧ (what = 3 → item = s_val T) ∧ (what = 1 → item = s_F T d) ∧ (what = 0 ∨ what = 2 → item = s_J T (what + 1) d) := by
        rcases (by omega : what = 0 ∨ what = 1 ∨ what = 2 ∨ what = 3) with e | e | e | e
        · subst e; exact ⟨_, rfl, fun h => by omega, fun h => by omega, fun _ => rfl⟩
        · subst e; exact ⟨_, rfl, fun h => by omega, fun h => rfl, fun h => by omega⟩
        · subst e; exact ⟨_, rfl, fun h => by omega, fun h => by omega, fun _ => rfl⟩
        · subst e; exact ⟨_, rfl, fun h => rfl, fun h => by omega, fun h => by omega⟩
      obtain ⟨i0, i3, i1, i02⟩ := hitem
      have i11 : (l1 + 1 : Int32).toInt = ((what + 1 : Nat) : Int) := by rw [show (l1 + 1 : Int32) = Int32.ofNat (what + 1) from n_inc h1 (by omega), i_ofNat (by omega)]
      have := C_join_L5 (T := T) (cJ := (F_rec m).1) (cF := (F_rec m).2) (what := what) (l1 := l1) (l2 := l2) h1 item
        (fun e => by rw [i3 (w3.mp e)]; exact fun X => C_readValue X)
        (fun e => by
          have e1 := w1.mp e
          rw [i1 e1]
          intro x c M X
          exact ihF d c hd (by omega) h2 X)
        (fun e3 e1 => by
          have a3 : what ≠ 3 := fun h => e3 (w3.mpr h)
          have a1 : what ≠ 1 := fun h => e1 (w1.mpr h)
          rw [i02 (by omega)]
          intro x c M X
          exact ihJ (what + 1) d c (by omega) hd (by omega) i11 h2 X)
        402 g_fuel 0 0 c (l3 := (-1 : Int32)) (l4 := (0 : Int32)) (x := x) (M := M) X (by omega) rfl rfl rfl (by omega) (by have : g_fuel = 1000000000 := rfl; omega)
      rw [i0]
      exact this
    · show Ok (F_X7_readFact_b0 (F_rec m).1 (F_rec m).2 (some 148) l2 M) _
      have C := X.1.1
      have f0 := X.1.2
      have hsz := z_Cs C
      obtain ⟨⟨⟨k1, k2⟩, _⟩, ⟨⟨r0, r1⟩, _⟩⟩ := z_148 (z_CL C)
      have k9 := z_k131 C
      have z10 : (10 : Int32).toInt = 10 := rfl
      have z91 : (91 : Int32).toInt = 91 := rfl
      have z280 : (280 : Int32).toInt = 280 := rfl
      rw [s_F_eq hd]
      delta F_X7_readFact_b0
      rw [t_gR k1 r0, Option.bind_some, t_gO k9, Option.bind_some]
      refine Ok_b (C_kind C) (fun v3 h3 => ?_)
      have e91 : v3 = 91 ↔ k_kind T x.1 = 91 := ⟨fun e => by rw [← h3, e]; rfl, fun e => Int32.toInt_inj.mp (by rw [h3, z91]; exact e)⟩
      have e280 : v3 = 280 ↔ k_kind T x.1 = 280 := ⟨fun e => by rw [← h3, e]; rfl, fun e => Int32.toInt_inj.mp (by rw [h3, z280]; exact e)⟩
      have i21 : (l2 + (1 : Int32)).toInt = ((d + 1 : Nat) : Int) := by rw [n_inc h2 (by omega), i_ofNat (by omega)]
      -- too deep
      have deep : 10 ≤ d → Ok ((gR 7 M (some 148) 0).bind fun v1 => (gR 7 M (some 148) 0).bind fun v2 => (gO 9 M v2).bind fun i3 => (F_X9_place (some i3) M).bind fun v4 => (gO 9 M v1).bind fun i5 => (F_X9_blame (some i5) v4 (2 : Int32) M).bind fun M6 => some M6) (c_P T M (.inl (1 + 8 * x.1 + 2)) x.1 c) := by
        intro _
        rw [t_gR k1 r0, Option.bind_some, Option.bind_some, t_gO k9, Option.bind_some]
        refine Ok_b (C_place C) (fun v8 h8 => ?_)
        rw [Option.bind_some, C_blame k9, Option.bind_some]
        obtain ⟨c1, c2⟩ := n_bl_r (l1 := v8) (l2 := (2 : Int32)) C
        have e0 := n_bl_0 (M := M) (l1 := v8) (l2 := (2 : Int32)) (q := x.1) (d := 2) f0 h8 (by omega) rfl (by decide)
        exact Ok_s ⟨c_57 (z_57b c2), c_Y57 X (z_57b c2) c1 e0 (by omega)⟩
      by_cases c91 : k_kind T x.1 = 91
      · have hlt := k_kind_lt (T := T) (p := x.1) (by omega)
        have kg := k_go_r hlt
        rw [if_pos (e91.mpr c91), if_pos c91]
        delta F_X7_readFact_b21
        by_cases cd : l2 < 10
        · have hd10 := i_lt cd
          rw [if_pos cd, if_neg (by omega)]
          delta F_X7_readFact_b45
          rw [if_pos (e91.mpr c91), t_gR k1 r0, Option.bind_some, t_gO k9, Option.bind_some]
          refine Ok_b (C_next C) (fun M19 z => ?_)
          have X19 : c_X T M19 (k_go T x.1, x.2) c := c_X57 X (z_57a z.2) z.1 (by rw [z.2.2 131 7 (by omega)]; exact f0) (by have := X.2.2.2; omega)
          rw [t_gO (z_148 (z_CL z.1)).1.1.1, Option.bind_some]
          refine Ok_b (ihJ 0 (d + 1) c (l1 := 0) (by omega) (by omega) (by omega) rfl i21 X19) (fun M21 q => ?_)
          obtain ⟨f21, r21⟩ := q
          cases hit : s_J T 0 (d + 1) (k_go T x.1, x.2) with
          | inl e =>
            rw [hit] at r21
            have Y : c_Y T M21 e := r21
            obtain ⟨p21, C21⟩ := Y.1
            obtain ⟨⟨⟨k1, k2⟩, _⟩, ⟨⟨r0, r1⟩, _⟩⟩ := z_148 (z_CL C21)
            rw [t_gR k1 r0, Option.bind_some, t_gO (z_k131 C21), Option.bind_some]
            refine Ok_b (C_expect (l := 93) C21) (fun M24 w => ?_)
            exact Ok_s ⟨c_tr (c_57 (z_57a z.2)) (c_tr f21 (c_57 w.2.1)), c_YY Y w.2.1 w.1 (w.2.2.2.1 (c_Yn Y))⟩
          | inr y =>
            rw [hit] at r21
            obtain ⟨X21, hp⟩ := r21
            have C21 := X21.1.1
            have hs21 := z_Cs C21
            have z93 : (93 : Int32).toInt = 93 := rfl
            obtain ⟨⟨⟨k1, k2⟩, _⟩, ⟨⟨r0, r1⟩, _⟩⟩ := z_148 (z_CL C21)
            rw [t_gR k1 r0, Option.bind_some, t_gO (z_k131 C21), Option.bind_some]
            refine Ok_b (C_expect (l := 93) C21) (fun M24 w => ?_)
            rw [s_b_inr]
            unfold s_close
            refine Ok_s ⟨c_tr (c_57 (z_57a z.2)) (c_tr f21 (c_57 w.2.1)), ?_⟩
            by_cases c93 : k_kind T y.1 = 93
            · rw [if_pos c93]
              have kg2 := k_go_r (k_kind_lt (T := T) (p := y.1) (by omega))
              refine ⟨c_X57 X21 w.2.1 w.1 (by rw [w.2.2.1 c93]; exact X21.1.2) (by have := X21.2.2.2; omega), ?_⟩
              show x.1 ≤ k_go T y.1
              have : k_go T x.1 ≤ y.1 := hp
              omega
            · rw [if_neg c93]
              exact c_Y57 X21 w.2.1 w.1 (w.2.2.2.2 X21.1.2 c93) (by omega)
        · have hd10 := i_nlt cd
          rw [if_neg cd, if_pos (by omega)]
          exact deep (by omega)
      · rw [if_neg (fun e => c91 (e91.mp e)), if_neg c91]
        by_cases c280 : k_kind T x.1 = 280
        · have hlt := k_kind_lt (T := T) (p := x.1) (by omega)
          have kg := k_go_r hlt
          rw [if_pos (e280.mpr c280), if_pos c280]
          delta F_X7_readFact_b21
          by_cases cd : l2 < 10
          · have hd10 := i_lt cd
            rw [if_pos cd, if_neg (by omega)]
            delta F_X7_readFact_b45
            rw [if_neg (fun e => c91 (e91.mp e)), if_pos (e280.mpr c280), t_gR k1 r0, Option.bind_some, t_gO k9, Option.bind_some]
            refine Ok_b (C_next C) (fun M12 z => ?_)
            have X12 : c_X T M12 (k_go T x.1, x.2) (c + 1) := c_X57 X (z_57a z.2) z.1 (by rw [z.2.2 131 7 (by omega)]; exact f0) (by have := X.2.2.2; omega)
            rw [t_gO (z_148 (z_CL z.1)).1.1.1, Option.bind_some]
            refine Ok_b (ihF (d + 1) (c + 1) (by omega) (by omega) i21 X12) (fun M14 q => ?_)
            obtain ⟨f14, r14⟩ := q
            cases hit : s_F T (d + 1) (k_go T x.1, x.2) with
            | inl e =>
              rw [hit] at r14
              have Y : c_Y T M14 e := r14
              obtain ⟨p14, C14⟩ := Y.1
              rw [t_gC (z_148 (z_CL C14)).1.1.1, Option.bind_some]
              refine Ok_b (C_putY Y) (fun M16 w => Ok_s ⟨c_tr (c_57 (z_57a z.2)) (c_tr f14 w.1), w.2⟩)
            | inr y =>
              rw [hit] at r14
              obtain ⟨X14, hp⟩ := r14
              have C14 := X14.1.1
              rw [t_gC (z_148 (z_CL C14)).1.1.1, Option.bind_some]
              refine Ok_b (C_put (a := (14, 0)) X14 (by rw [e_cn (by decide)]; rfl)) (fun M16 w => Ok_s ⟨c_tr (c_57 (z_57a z.2)) (c_tr f14 w.1), w.2, ?_⟩)
              show x.1 ≤ y.1
              have : k_go T x.1 ≤ y.1 := hp
              omega
          · have hd10 := i_nlt cd
            rw [if_neg cd, if_pos (by omega)]
            exact deep (by omega)
        · rw [if_neg (fun e => c280 (e280.mp e)), if_neg c280]
          delta F_X7_readFact_b45
          rw [if_neg (fun e => c91 (e91.mp e)), if_neg (fun e => c280 (e280.mp e)), t_gO k1, Option.bind_some]
          refine Ok_b (ihJ 2 d c (l1 := 2) (by omega) hd (by omega) rfl h2 X) (fun M2 q => ?_)
          obtain ⟨f2, r2⟩ := q
          unfold s_cmp
          have es : s_J T 2 d x = s_sum T x := rfl
          rw [es] at r2
          -- behind a FAULT
          have bad : ∀ {M3 : gM} {e : Nat} {v : Int32}, c_Fr M M3 → c_Y T M3 e → Ok ((gC 7 M3 148).bind fun _ => ((F_rec m).1 (some 148) (2 : Int32) l2 M3).bind fun M7 => (gC 7 M7 148).bind fun _ => (F_X7_put (some 148) v M7).bind fun M9 => some M9) (c_P T M (.inl e) x.1 c) := by
            intro M3 e v f3 Y
            obtain ⟨p3, C3⟩ := Y.1
            rw [t_gC (z_148 (z_CL C3)).1.1.1, Option.bind_some]
            have hm : ∃ m', m = m' + 1 := ⟨m - 1, by omega⟩
            obtain ⟨m', rfl⟩ := hm
            have gf : g_fuel = 999999999 + 1 := rfl
            refine Ok_b (P := fun M' => c_Fr M3 M' ∧ c_Y T M' e) ?_ (fun M7 w => ?_)
            · show Ok (F_X7_readJoined_L5 (F_rec m').1 (F_rec m').2 g_fuel (some 148) 2 l2 (-1 : Int32) (0 : Int32) M3) _
              rw [gf]
              exact C_join_Y Y
            · obtain ⟨p7, C7⟩ := w.2.1
              rw [t_gC (z_148 (z_CL C7)).1.1.1, Option.bind_some]
              exact Ok_b (C_putY w.2) (fun M9 u => Ok_s ⟨c_tr f3 (c_tr w.1 u.1), u.2⟩)
          cases hit : s_sum T x with
          | inl e =>
            rw [hit] at r2
            have Y : c_Y T M2 e := r2
            obtain ⟨p2, C2⟩ := Y.1
            rw [t_gC (z_148 (z_CL C2)).1.1.1, Option.bind_some]
            refine Ok_b (C_readComparingY Y) (fun yy z => ?_)
            obtain ⟨v4, M5⟩ := yy
            exact bad (c_tr f2 z.1) z.2
          | inr y =>
            rw [hit] at r2
            obtain ⟨X2, hp⟩ := r2
            have C2 := X2.1.1
            rw [t_gC (z_148 (z_CL C2)).1.1.1, Option.bind_some]
            refine Ok_b (C_readComparing X2) (fun yy z => ?_)
            obtain ⟨v4, M5⟩ := yy
            obtain ⟨f5, g0, g1⟩ := z
            dsimp only at f5 g0 g1 ⊢
            rw [s_b_inr]
            unfold s_cmp2
            by_cases c0 : s_co (k_kind T y.1) = 0
            · rw [if_pos c0]
              exact bad (c_tr f2 f5) (g0 c0)
            · rw [if_neg c0]
              obtain ⟨ev, g60, gn⟩ := g1 c0
              by_cases c60 : y.2.1 = 60
              · rw [if_pos c60]
                exact bad (c_tr f2 f5) (g60 c60)
              · rw [if_neg c60]
                have X5 := gn c60
                have kg := k_go_le (T := T) (p := y.1)
                rw [t_gC (z_148 (z_CL X5.1.1)).1.1.1, Option.bind_some]
                refine Ok_b (ihJ 2 d (c + 1) (l1 := 2) (by omega) hd (by omega) rfl h2 X5) (fun M7 q => ?_)
                obtain ⟨f7, r7⟩ := q
                have es2 : s_J T 2 d (k_go T y.1, y.2.1 + 1, y.2.2) = s_sum T (k_go T y.1, y.2.1 + 1, y.2.2) := rfl
                rw [es2] at r7
                cases hit2 : s_sum T (k_go T y.1, y.2.1 + 1, y.2.2) with
                | inl e =>
                  rw [hit2] at r7
                  have Y : c_Y T M7 e := r7
                  obtain ⟨p7, C7⟩ := Y.1
                  rw [t_gC (z_148 (z_CL C7)).1.1.1, Option.bind_some]
                  exact Ok_b (C_putY Y) (fun M9 u => Ok_s ⟨c_tr f2 (c_tr f5 (c_tr f7 u.1)), u.2⟩)
                | inr w =>
                  rw [hit2] at r7
                  obtain ⟨X7, hp7⟩ := r7
                  have cr := s_co_r (k := k_kind T y.1)
                  rw [t_gC (z_148 (z_CL X7.1.1)).1.1.1, Option.bind_some]
                  refine Ok_b (C_put (a := (s_co (k_kind T y.1), 0)) X7 (by rw [ev, e_cn (by omega)])) (fun M9 u => Ok_s ⟨c_tr f2 (c_tr f5 (c_tr f7 u.1)), u.2, ?_⟩)
                  show x.1 ≤ w.1
                  have : k_go T y.1 ≤ w.1 := hp7
                  omega
-- 69.cread2
/-! clauses and the whole text, by the class -/
def s_cl (T : gM) (cl : Nat) (x : sS) : Nat ⊕ (sS × (Nat × Nat × Nat)) :=
  if k_kind T x.1 ≠ 278 then .inl (1 + 8 * x.1 + 0) else if 12 < cl then .inl (1 + 8 * x.1 + 4) else
    match s_sum T (k_go T x.1, x.2) with
    | .inl e => .inl e
    | .inr y => if k_kind T y.1 = 279 then (match s_J T 0 0 (k_go T y.1, y.2) with
        | .inl e => .inl e
        | .inr z => .inr (z, (x.2.2.length, y.2.2.length, z.2.2.length))) else .inr (y, (x.2.2.length, y.2.2.length, y.2.2.length))
def s_tl (T : gM) : Nat → Nat → sS → List (Nat × Nat × Nat) → Nat ⊕ (sS × List (Nat × Nat × Nat))
  | 0, _, _, _ => .inl 0
  | n + 1, cl, x, ms => match s_cl T cl x with
    | .inl e => .inl e
    | .inr (y, m) => if k_kind T y.1 = 256 then .inr (y, m :: ms) else if k_kind T y.1 = 59 then s_tl T n (cl + 1) (k_go T y.1, y.2) (m :: ms) else .inl (1 + 8 * y.1 + 0)
/-- a text read as a RULE -/
def s_text (T : gM) : Nat ⊕ (sS × List (Nat × Nat × Nat)) := s_tl T 14 1 (n_sk T 0, 0, []) []
/-- marks -/
def c_K (f : Nat → Int32) : List (Nat × Nat × Nat) → Prop
  | [] => True
  | m :: ms => (((f (3 * ms.length)).toInt = (m.1 : Int) ∧ (f (3 * ms.length + 1)).toInt = (m.2.1 : Int)) ∧ (f (3 * ms.length + 2)).toInt = (m.2.2 : Int)) ∧ c_K f ms
theorem c_K_c {f g : Nat → Int32} : ∀ {ms : List (Nat × Nat × Nat)}, (∀ q, q < 3 * ms.length → g q = f q) → c_K f ms → c_K g ms := by
  intro ms
  induction ms with
  | nil => intro _ _; trivial
  | cons m ms ih =>
    intro h hc
    have hl : (m :: ms).length = ms.length + 1 := rfl
    obtain ⟨⟨⟨h1, h2⟩, h3⟩, h4⟩ := hc
    refine ⟨⟨⟨?_, ?_⟩, ?_⟩, ih (fun q hq => h q (by omega)) h4⟩
    · rw [h _ (by omega)]; exact h1
    · rw [h _ (by omega)]; exact h2
    · rw [h _ (by omega)]; exact h3
/-- a mark is made -/
theorem C_mark {M : gM} {n l : Nat} (L : z_L M) (h4 : (M.2.1 148 4).toInt = (n : Int)) (h3 : (M.2.1 148 3).toInt = (l : Int)) (hn : n < 36) : F_X7_mark (some 148) M = some (mI (mI M 150 n (M.2.1 148 3)) 148 4 (Int32.ofNat (n + 1))) := by
  obtain ⟨⟨⟨k1, k2⟩, k3⟩, ⟨⟨r0, r1⟩, r2⟩⟩ := z_148 L
  have i36 : (Int32.ofNat 36).toInt = 36 := rfl
  delta F_X7_mark F_X7_mark_b0
  rw [t_gI k1, Option.bind_some, t_gR k1 r2, Option.bind_some, t_aN k3 (by decide), Option.bind_some, if_neg (fun z => by have := i_le z; omega), Option.bind_some, Option.bind_some, t_gI k1, Option.bind_some, t_sI k3 (by omega) (by omega), Option.bind_some, i_cl h4]
  have k1' : g_k (mI M 150 n (M.2.1 148 3)) 148 = (7, 0) := k1
  have e4 : (mI M 150 n (M.2.1 148 3)).2.1 148 4 = M.2.1 148 4 := mI_ne (Or.inl (by decide))
  rw [t_gI k1', Option.bind_some, t_pI k1', Option.bind_some, e4, n_inc h4 (by omega)]
theorem C_mark36 {M : gM} (L : z_L M) (h4 : (M.2.1 148 4).toInt = 36) : F_X7_mark (some 148) M = some M := by
  obtain ⟨⟨⟨k1, k2⟩, k3⟩, ⟨⟨r0, r1⟩, r2⟩⟩ := z_148 L
  have i36 : (Int32.ofNat 36).toInt = 36 := rfl
  delta F_X7_mark F_X7_mark_b0
  rw [t_gI k1, Option.bind_some, t_gR k1 r2, Option.bind_some, t_aN k3 (by decide), Option.bind_some, if_pos (Int32.le_iff_toInt_le.mpr (by omega))]
/-- only marks changed -/
theorem C_mark_o {M : gM} {n : Nat} {v w : Int32} : ∀ i k, ¬ (i = 148 ∧ k = 4) → i ≠ 150 → (mI (mI M 150 n v) 148 4 w).2.1 i k = M.2.1 i k := fun i k h1 h2 => by rw [mI_ne (by omega), mI_ne (Or.inl h2)]
theorem C_markX {T M : gM} {x : sS} {c n : Nat} (X : c_X T M x c) (h4 : (M.2.1 148 4).toInt = (n : Int)) (hn : n < 36) : ∃ M', F_X7_mark (some 148) M = some M' ∧ (z_Fr M M' ∧ c_X T M' x c) ∧ (M'.2.1 148 4).toInt = ((n + 1 : Nat) : Int) ∧ (M'.2.1 150 n).toInt = (x.2.2.length : Int) ∧ ∀ q, q ≠ n → M'.2.1 150 q = M.2.1 150 q := by
  obtain ⟨⟨C, f0⟩, ⟨v1, v2⟩, ⟨l1, l2⟩, hc⟩ := X
  refine ⟨_, C_mark (z_CL C) h4 l1 hn, ⟨z_tr (z_up (by unfold z_W; omega)) (z_up (by unfold z_W; omega)), ?_⟩, ?_, ?_, fun q hq => ?_⟩
  · have o := C_mark_o (M := M) (n := n) (v := M.2.1 148 3) (w := Int32.ofNat (n + 1))
    refine ⟨⟨z_Cmi (z_Cmi C (by unfold z_W; omega) (Or.inr (Or.inr (Or.inr rfl)))) (by unfold z_W; omega) (Or.inr (Or.inl rfl)), by rw [o 131 7 (by omega) (by omega)]; exact f0⟩, ⟨by rw [o 148 5 (by omega) (by omega)]; exact v1, v2⟩, ⟨by rw [o 148 3 (by omega) (by omega)]; exact l1, c_O_c (fun q _ => o 149 q (by omega) (by omega)) l2⟩, hc⟩
  · rw [y_mI1, i_ofNat (by omega)]
  · rw [mI_ne (Or.inl (by decide)), y_mI1]
    exact l1
  · rw [mI_ne (Or.inl (by decide)), mI_ne (Or.inr hq)]
theorem C_markY {T M : gM} {e n : Nat} (Y : c_Y T M e) (h4 : (M.2.1 148 4).toInt = (n : Int)) (hn : n ≤ 36) : ∃ M', F_X7_mark (some 148) M = some M' ∧ c_Y T M' e ∧ ∃ n', (M'.2.1 148 4).toInt = ((n' : Nat) : Int) ∧ n' ≤ 36 := by
  obtain ⟨⟨p, C⟩, f0, he, l1, l2⟩ := Y
  rcases Nat.lt_or_ge n 36 with h | h
  · obtain ⟨l, hl⟩ : ∃ l : Nat, (M.2.1 148 3).toInt = (l : Int) := ⟨(M.2.1 148 3).toInt.toNat, by omega⟩
    have o := C_mark_o (M := M) (n := n) (v := M.2.1 148 3) (w := Int32.ofNat (n + 1))
    refine ⟨_, C_mark (z_CL C) h4 hl h, ⟨⟨p, z_Cmi (z_Cmi C (by unfold z_W; omega) (Or.inr (Or.inr (Or.inr rfl)))) (by unfold z_W; omega) (Or.inr (Or.inl rfl))⟩, by rw [o 131 7 (by omega) (by omega)]; exact f0, he, by rw [o 148 3 (by omega) (by omega)]; exact ⟨l1, l2⟩⟩, n + 1, ?_, by omega⟩
    rw [y_mI1, i_ofNat (by omega)]
  · have : n = 36 := by omega
    subst this
    exact ⟨M, C_mark36 (z_CL C) h4, ⟨⟨p, C⟩, f0, he, l1, l2⟩, 36, h4, by omega⟩
theorem C_mark_fr {M M' : gM} (L : z_L M) (e : F_X7_mark (some 148) M = some M') : z_Fr M M' := by
  obtain ⟨⟨⟨k1, k2⟩, k3⟩, ⟨⟨r0, r1⟩, r2⟩⟩ := z_148 L
  delta F_X7_mark F_X7_mark_b0 at e
  rw [t_gI k1, Option.bind_some, t_gR k1 r2, Option.bind_some, t_aN k3 (by decide), Option.bind_some] at e
  by_cases c : Int32.ofNat 36 ≤ M.2.1 148 4
  · rw [if_pos c] at e
    cases e
    exact z_rf
  · rw [if_neg c, Option.bind_some, Option.bind_some, t_gI k1, Option.bind_some] at e
    obtain ⟨M7, e7, e⟩ := g_bd e
    unfold sI at e7
    rw [Option.bind_some] at e7
    obtain ⟨_, e7⟩ := g_if2 e7
    cases e7
    have k1' : g_k (mI M 150 (M.2.1 148 4).toNatClampNeg (M.2.1 148 3)) 148 = (7, 0) := k1
    rw [t_gI k1', Option.bind_some, t_pI k1', Option.bind_some] at e
    cases e
    exact z_tr (z_up (by unfold z_W; omega)) (z_up (by unfold z_W; omega))
/-- the class between clauses -/
def c_Z (T M : gM) (x : sS) (ms : List (Nat × Nat × Nat)) : Prop := c_X T M x 0 ∧ (M.2.1 148 4).toInt = ((3 * ms.length : Nat) : Int) ∧ c_K (M.2.1 150) ms
def c_V (T M : gM) (e : Nat) : Prop := c_Y T M e ∧ ∃ n : Nat, (M.2.1 148 4).toInt = (n : Int) ∧ n ≤ 36
def c_Q (T : gM) (r : Nat ⊕ (sS × (Nat × Nat × Nat))) (ms : List (Nat × Nat × Nat)) (M' : gM) : Prop := match r with
  | .inl e => c_V T M' e
  | .inr (y, m) => c_Z T M' y (m :: ms)
theorem C_readClause {T M : gM} {x : sS} {ms : List (Nat × Nat × Nat)} {l1 : Int32} {cl : Nat} (Z : c_Z T M x ms) (h1 : l1.toInt = (cl : Int)) (hcl : cl = ms.length + 1) (hc13 : cl ≤ 13) : Ok (F_X7_readClause (some 148) l1 M) (fun M' => z_Fr M M' ∧ c_Q T (s_cl T cl x) ms M') := by
  obtain ⟨X, h4, hK⟩ := Z
  have C := X.1.1
  have f0 := X.1.2
  have hsz := z_Cs C
  obtain ⟨⟨⟨k1, k2⟩, _⟩, ⟨⟨r0, r1⟩, _⟩⟩ := z_148 (z_CL C)
  have k9 := z_k131 C
  have z278 : (278 : Int32).toInt = 278 := rfl
  have z279 : (279 : Int32).toInt = 279 := rfl
  have z12 : (12 : Int32).toInt = 12 := rfl
  delta F_X7_readClause F_X7_readClause_b0
  rw [t_gR k1 r0, Option.bind_some, t_gO k9, Option.bind_some]
  refine Ok_b (C_kind C) (fun v3 h3 => ?_)
  have bad : ∀ {l : Int32} {d : Nat}, l.toInt = (d : Int) → d ≤ 7 → Ok ((gO 9 M (some 131)).bind fun i26 => (F_X9_place (some i26) M).bind fun v27 => (gO 9 M (some 131)).bind fun i28 => (F_X9_blame (some i28) v27 l M).bind fun M29 => some M29) (fun M' => z_Fr M M' ∧ c_V T M' (1 + 8 * x.1 + d)) := by
    intro l d hl hd
    rw [t_gO k9, Option.bind_some]
    refine Ok_b (C_place C) (fun v8 h8 => ?_)
    rw [Option.bind_some, C_blame k9, Option.bind_some]
    obtain ⟨c1, c2⟩ := n_bl_r (l1 := v8) (l2 := l) C
    have e0 := n_bl_0 (M := M) (l1 := v8) (l2 := l) (q := x.1) (d := d) f0 h8 (by omega) hl hd
    refine Ok_s ⟨c2.1, c_Y57 X (z_57b c2) c1 e0 (by omega), 3 * ms.length, by rw [c2.2 148 4 (by omega)]; exact h4, by omega⟩
  unfold s_cl
  by_cases c278 : k_kind T x.1 = 278
  · rw [if_pos (Int32.toInt_inj.mp (by rw [h3, z278]; exact c278)), if_neg (not_not_intro c278)]
    have hlt := k_kind_lt (T := T) (p := x.1) (by omega)
    have kg := k_go_r hlt
    by_cases c12 : l1 ≤ 12
    · have := i_le c12
      rw [if_pos c12, if_neg (by omega), Option.bind_some, t_gO k9, Option.bind_some]
      refine Ok_b (C_next C) (fun M6 z6 => ?_)
      have X6 : c_X T M6 (k_go T x.1, x.2) 0 := c_X57 X (z_57a z6.2) z6.1 (by rw [z6.2.2 131 7 (by omega)]; exact f0) (by have := X.2.2.2; omega)
      have h46 : (M6.2.1 148 4).toInt = ((3 * ms.length : Nat) : Int) := by rw [z6.2.2 148 4 (by omega)]; exact h4
      have K6 : c_K (M6.2.1 150) ms := c_K_c (fun q _ => z6.2.2 150 q (by omega)) hK
      rw [t_gO (z_148 (z_CL z6.1)).1.1.1, Option.bind_some]
      obtain ⟨M8, e8, ⟨f8, X8⟩, h48, hm8, ho8⟩ := C_markX X6 h46 (by omega)
      rw [e8, Option.bind_some, t_gC (z_148 (z_CL X8.1.1)).1.1.1, Option.bind_some]
      have K8 : c_K (M8.2.1 150) ms := c_K_c (fun q hq => ho8 q (by omega)) K6
      have F8 := z_tr z6.2.1 f8
      refine Ok_b ((C_rec (T := T) 60).1 2 0 0 (l1 := 2) (l2 := 0) (by decide) (by decide) (by decide) rfl rfl X8) (fun M10 q10 => ?_)
      obtain ⟨f10, r10⟩ := q10
      have es : s_J T 2 0 (k_go T x.1, x.2) = s_sum T (k_go T x.1, x.2) := rfl
      rw [es] at r10
      have h410 : (M10.2.1 148 4).toInt = ((3 * ms.length + 1 : Nat) : Int) := by rw [f10.2.2]; exact h48
      have F10 := z_tr F8 f10.1
      cases hit : s_sum T (k_go T x.1, x.2) with
      | inl e =>
        rw [hit] at r10
        have Y : c_Y T M10 e := r10
        obtain ⟨p10, C10⟩ := Y.1
        rw [t_gC (z_148 (z_CL C10)).1.1.1, Option.bind_some]
        obtain ⟨M12, e12, Y12, n12, h412, hn12⟩ := C_markY Y h410 (by omega)
        have f12 := C_mark_fr (z_CL C10) e12
        rw [e12, Option.bind_some]
        obtain ⟨p12, C12⟩ := Y12.1
        obtain ⟨⟨⟨k1, k2⟩, _⟩, ⟨⟨r0, r1⟩, _⟩⟩ := z_148 (z_CL C12)
        have k9 := z_k131 C12
        rw [t_gR k1 r0, Option.bind_some, t_gO k9, Option.bind_some, C_faulty k9, Option.bind_some, if_neg (c_Yn Y12), if_neg (by decide)]
        delta F_X7_readClause_b108
        obtain ⟨M13, e13, Y13, n13, h413, hn13⟩ := C_markY Y12 h412 hn12
        have f13 := C_mark_fr (z_CL C12) e13
        rw [t_gO k1, Option.bind_some, e13, Option.bind_some]
        exact Ok_s ⟨z_tr F10 (z_tr f12 f13), Y13, n13, h413, hn13⟩
      | inr y =>
        rw [hit] at r10
        obtain ⟨X10, hp10⟩ := r10
        have C10 := X10.1.1
        have K10 : c_K (M10.2.1 150) ms := by rw [f10.2.1]; exact K8
        have hm10 : (M10.2.1 150 (3 * ms.length)).toInt = (x.2.2.length : Int) := by rw [f10.2.1]; exact hm8
        rw [t_gC (z_148 (z_CL C10)).1.1.1, Option.bind_some]
        obtain ⟨M12, e12, ⟨f12, X12⟩, h412, hm12, ho12⟩ := C_markX X10 h410 (by omega)
        have K12 : c_K (M12.2.1 150) ms := c_K_c (fun q hq => ho12 q (by omega)) K10
        have hm120 : (M12.2.1 150 (3 * ms.length)).toInt = (x.2.2.length : Int) := by rw [ho12 _ (by omega)]; exact hm10
        have F12 := z_tr F10 f12
        rw [e12, Option.bind_some]
        have C12 := X12.1.1
        obtain ⟨⟨⟨k1, k2⟩, _⟩, ⟨⟨r0, r1⟩, _⟩⟩ := z_148 (z_CL C12)
        have k9 := z_k131 C12
        rw [t_gR k1 r0, Option.bind_some, t_gO k9, Option.bind_some, C_faulty k9, Option.bind_some, if_pos X12.1.2, if_pos rfl, Option.bind_some, t_gO k9, Option.bind_some]
        refine Ok_b (C_kind C12) (fun v18 h18 => ?_)
        dsimp only
        by_cases c279 : k_kind T y.1 = 279
        · have kg2 := k_go_r (k_kind_lt (T := T) (p := y.1) (by omega))
          rw [if_pos (Int32.toInt_inj.mp (by rw [h18, z279]; exact c279)), if_pos c279, Option.bind_some, t_gO k9, Option.bind_some]
          refine Ok_b (C_next C12) (fun M21 z21 => ?_)
          have X21 : c_X T M21 (k_go T y.1, y.2) 0 := c_X57 X12 (z_57a z21.2) z21.1 (by rw [z21.2.2 131 7 (by omega)]; exact X12.1.2) (by have := X12.2.2.2; omega)
          rw [t_gC (z_148 (z_CL z21.1)).1.1.1, Option.bind_some]
          refine Ok_b ((C_rec (T := T) 60).1 0 0 0 (l1 := 0) (l2 := 0) (by decide) (by decide) (by decide) rfl rfl X21) (fun M23 q23 => ?_)
          obtain ⟨f23, r23⟩ := q23
          have h423 : (M23.2.1 148 4).toInt = ((3 * ms.length + 1 + 1 : Nat) : Int) := by rw [f23.2.2, z21.2.2 148 4 (by omega)]; exact h412
          have F23 := z_tr F12 (z_tr z21.2.1 f23.1)
          have m150 : M23.2.1 150 = M12.2.1 150 := f23.2.1.trans (funext (fun k => z21.2.2 150 k (by omega)))
          delta F_X7_readClause_b108
          cases hit2 : s_J T 0 0 (k_go T y.1, y.2) with
          | inl e =>
            rw [hit2] at r23
            have Y : c_Y T M23 e := r23
            obtain ⟨p23, C23⟩ := Y.1
            obtain ⟨M13, e13, Y13, n13, h413, hn13⟩ := C_markY Y h423 (by omega)
            have f13 := C_mark_fr (z_CL C23) e13
            rw [t_gO (z_148 (z_CL C23)).1.1.1, Option.bind_some, e13, Option.bind_some]
            exact Ok_s ⟨z_tr F23 f13, Y13, n13, h413, hn13⟩
          | inr w =>
            rw [hit2] at r23
            obtain ⟨X23, hp23⟩ := r23
            obtain ⟨M13, e13, ⟨f13, X13⟩, h413, hm13, ho13⟩ := C_markX X23 h423 (by omega)
            rw [t_gO (z_148 (z_CL X23.1.1)).1.1.1, Option.bind_some, e13, Option.bind_some]
            refine Ok_s ⟨z_tr F23 f13, X13, by rw [h413]; simp; omega, ⟨⟨?_, ?_⟩, ?_⟩, c_K_c (fun q hq => (ho13 q (by omega)).trans (congrFun m150 q)) K12⟩
            · rw [ho13 _ (by omega), m150]
              exact hm120
            · rw [ho13 _ (by omega), m150]
              exact hm12
            · exact hm13
        · rw [if_neg (fun z => c279 (by rw [← h18, z]; rfl)), if_neg c279]
          delta F_X7_readClause_b108
          obtain ⟨M13, e13, ⟨f13, X13⟩, h413, hm13, ho13⟩ := C_markX X12 h412 (by omega)
          rw [t_gO k1, Option.bind_some, e13, Option.bind_some]
          refine Ok_s ⟨z_tr F12 f13, X13, by rw [h413]; simp; omega, ⟨⟨?_, ?_⟩, ?_⟩, c_K_c (fun q hq => ho13 q (by omega)) K12⟩
          · rw [ho13 _ (by omega)]
            exact hm120
          · rw [ho13 _ (by omega)]
            exact hm12
          · exact hm13
    · have := i_nle c12
      rw [if_neg c12, if_pos (by omega)]
      exact bad (l := (4 : Int32)) (d := 4) rfl (by decide)
  · rw [if_neg (fun z => c278 (by rw [← h3, z]; rfl)), if_pos c278]
    exact bad (l := (0 : Int32)) (d := 0) rfl (by decide)
-- 70.cread3
/-! the class's rule(): what it answers -/
theorem Ok_and {α : Type} {o : Option α} {P Q : α → Prop} (h1 : Ok o P) (h2 : Ok o Q) : Ok o (fun a => P a ∧ Q a) := by
  obtain ⟨a, e, p⟩ := h1
  obtain ⟨b, e2, q⟩ := h2
  rw [e] at e2
  cases e2
  exact ⟨a, e, p, q⟩
theorem C_goesOn {T M : gM} {p : Nat} (C : z_C T M p) (f0 : M.2.1 131 7 = 0) : Ok (F_X9_goesOn (some 131) M) (fun r => (z_57 M r.2 ∧ ∃ q, z_C T r.2 q) ∧ (k_kind T p = 256 → r.1 = 0 ∧ r.2 = M) ∧ (k_kind T p = 59 → r.1 = 1 ∧ z_C T r.2 (k_go T p) ∧ r.2.2.1 131 7 = 0) ∧ (k_kind T p ≠ 256 → k_kind T p ≠ 59 → r.1 = 0 ∧ (r.2.2.1 131 7).toInt = ((1 + 8 * p + 0 : Nat) : Int))) := by
  have k9 := z_k131 C
  have z256 : (256 : Int32).toInt = 256 := rfl
  have z59 : (59 : Int32).toInt = 59 := rfl
  delta F_X9_goesOn F_X9_goesOn_b0
  rw [t_gO k9, Option.bind_some, C_faulty k9, Option.bind_some, if_pos f0, if_pos rfl]
  refine Ok_b (C_kind C) (fun v3 h3 => ?_)
  refine Ok_i (fun c => ?_) (fun c => ?_)
  · have e : k_kind T p = 256 := by rw [← h3, c]; rfl
    exact Ok_s ⟨⟨z_57r, p, C⟩, fun _ => ⟨rfl, rfl⟩, fun h => by omega, fun h => absurd e h⟩
  · have e : k_kind T p ≠ 256 := fun h => c (Int32.toInt_inj.mp (by rw [h3, z256]; exact h))
    delta F_X9_goesOn_b19
    rw [t_gO k9, Option.bind_some]
    refine Ok_b (C_expect (l := 59) C) (fun M2 w => ?_)
    obtain ⟨C2, f57, w1, w2, w3⟩ := w
    have k92 := z_k131 C2
    rw [t_gC k92, Option.bind_some, C_faulty k92, Option.bind_some]
    by_cases c59 : k_kind T p = 59
    · have e7 : M2.2.1 131 7 = 0 := by rw [w1 c59]; exact f0
      rw [if_pos e7, if_pos rfl]
      exact Ok_s ⟨⟨f57, _, C2⟩, fun h => absurd h e, fun _ => ⟨rfl, C2, e7⟩, fun _ h => absurd c59 h⟩
    · have e7 := w3 f0 c59
      have n7 : ¬ M2.2.1 131 7 = 0 := fun h => by rw [h] at e7; have z0 : (0 : Int32).toInt = 0 := rfl; omega
      rw [if_neg n7, if_neg (by decide)]
      exact Ok_s ⟨⟨f57, _, C2⟩, fun h => absurd h e, fun h => absurd h c59, fun _ _ => ⟨rfl, e7⟩⟩
theorem C_goesOnY {T M : gM} {e : Nat} (Y : c_Y T M e) : Ok (F_X9_goesOn (some 131) M) (fun r => r.1 = 0 ∧ z_57 M r.2 ∧ c_Y T r.2 e) := by
  obtain ⟨p, C⟩ := Y.1
  have k9 := z_k131 C
  have fn := c_Yn Y
  delta F_X9_goesOn F_X9_goesOn_b0
  rw [t_gO k9, Option.bind_some, C_faulty k9, Option.bind_some, if_neg fn, if_neg (by decide)]
  delta F_X9_goesOn_b19
  rw [t_gO k9, Option.bind_some]
  refine Ok_b (C_expect (l := 59) C) (fun M2 w => ?_)
  obtain ⟨C2, f57, w1, w2, w3⟩ := w
  have k92 := z_k131 C2
  have Y2 := c_YY Y f57 C2 (w2 fn)
  rw [t_gC k92, Option.bind_some, C_faulty k92, Option.bind_some, if_neg (c_Yn Y2), if_neg (by decide)]
  exact Ok_s ⟨rfl, f57, Y2⟩
def c_T (T : gM) (r : Nat ⊕ (sS × List (Nat × Nat × Nat))) (M' : gM) : Prop := match r with
  | .inl e => c_V T M' e
  | .inr (y, ms) => c_Z T M' y ms ∧ ms.length ≤ 12
theorem C_read_end {n : Nat} {l2 : Int32} {M : gM} : F_X7_read_L26 (n + 1) (some 148) (0 : Int32) l2 M = F_X7_read_b55 (some 148) M := by
  show F_X7_read_b26 (F_X7_read_L26 n) (some 148) (0 : Int32) l2 M = _
  delta F_X7_read_b26
  by_cases c : (13 : Int32) < l2
  · rw [if_pos c]
  · rw [if_neg c, if_pos rfl]
theorem C_read_L26 {T : gM} : ∀ (n cl : Nat) {l2 : Int32} {M : gM} {x : sS} {ms : List (Nat × Nat × Nat)}, c_Z T M x ms → l2.toInt = (cl : Int) → cl = ms.length + 1 → cl ≤ 13 → 15 - cl < n → ∃ Mk, F_X7_read_L26 n (some 148) (1 : Int32) l2 M = F_X7_read_b55 (some 148) Mk ∧ z_Fr M Mk ∧ c_T T (s_tl T (15 - cl) cl x ms) Mk := by
  intro n
  induction n with
  | zero => intro cl l2 M x ms Z h2 hm hc hn; omega
  | succ n ih =>
    intro cl l2 M x ms Z h2 hm hc hn
    have C := Z.1.1.1
    obtain ⟨⟨⟨k1, k2⟩, _⟩, ⟨⟨r0, r1⟩, _⟩⟩ := z_148 (z_CL C)
    have z13 : (13 : Int32).toInt = 13 := rfl
    have e : F_X7_read_L26 (n + 1) (some 148) (1 : Int32) l2 M = (F_X7_readClause (some 148) l2 M).bind fun M2 => (gR 7 M2 (some 148) 0).bind fun v3 => (gO 9 M2 v3).bind fun i4 => (F_X9_goesOn (some i4) M2).bind fun (v5, M6) => F_X7_read_L26 n (some 148) v5 (l2 + 1) M6 := by
      show F_X7_read_b26 (F_X7_read_L26 n) (some 148) (1 : Int32) l2 M = _
      delta F_X7_read_b26
      rw [if_neg (fun z => by have := i_lt z; omega), if_neg (by decide), t_gO k1, Option.bind_some]
    obtain ⟨M2, e2, f2, q2⟩ := C_readClause Z h2 hm hc
    rw [e, e2, Option.bind_some]
    obtain ⟨n', rfl⟩ : ∃ m, n = m + 1 := ⟨n - 1, by omega⟩
    rw [show 15 - cl = (14 - cl) + 1 by omega]
    unfold s_tl
    cases hit : s_cl T cl x with
    | inl er =>
      rw [hit] at q2
      obtain ⟨Y, nm, h4, hn4⟩ := q2
      obtain ⟨p2, C2⟩ := Y.1
      obtain ⟨⟨⟨k1, k2⟩, _⟩, ⟨⟨r0, r1⟩, _⟩⟩ := z_148 (z_CL C2)
      rw [t_gR k1 r0, Option.bind_some, t_gO (z_k131 C2), Option.bind_some]
      obtain ⟨⟨v5, M6⟩, e6, g1, g2, g3⟩ := C_goesOnY Y
      dsimp only at g1 g2 g3
      rw [e6, Option.bind_some]
      dsimp only
      rw [g1, C_read_end]
      exact ⟨M6, rfl, z_tr f2 g2.1, g3, nm, by rw [g2.2 148 4 (by omega)]; exact h4, hn4⟩
    | inr ym =>
      obtain ⟨y, m⟩ := ym
      rw [hit] at q2
      obtain ⟨X2, h4, hK⟩ := q2
      have C2 := X2.1.1
      obtain ⟨⟨⟨k1, k2⟩, _⟩, ⟨⟨r0, r1⟩, _⟩⟩ := z_148 (z_CL C2)
      have cl12 : cl ≤ 12 := by
        rcases Nat.lt_or_ge 12 cl with h | h
        · exfalso
          unfold s_cl at hit
          by_cases c : k_kind T x.1 ≠ 278
          · rw [if_pos c] at hit
            cases hit
          · rw [if_neg c, if_pos h] at hit
            cases hit
        · exact h
      rw [t_gR k1 r0, Option.bind_some, t_gO (z_k131 C2), Option.bind_some]
      obtain ⟨⟨v5, M6⟩, e6, ⟨g1, q6, gC⟩, ga, gb, gc⟩ := C_goesOn C2 X2.1.2
      dsimp only at g1 gC ga gb gc
      rw [e6, Option.bind_some]
      dsimp only
      by_cases c256 : k_kind T y.1 = 256
      · obtain ⟨a1, a2⟩ := ga c256
        rw [if_pos c256, a1, a2, C_read_end]
        refine ⟨M2, rfl, f2, ⟨X2, h4, hK⟩, ?_⟩
        show ms.length + 1 ≤ 12
        omega
      · rw [if_neg c256]
        by_cases c59 : k_kind T y.1 = 59
        · obtain ⟨a1, a2, a3⟩ := gb c59
          have kg := k_go_r (k_kind_lt (T := T) (p := y.1) c256)
          rw [if_pos c59, a1]
          have Z6 : c_Z T M6 (k_go T y.1, y.2) (m :: ms) := ⟨c_X57 X2 g1 a2 a3 (by have := X2.2.2.2; omega), by rw [g1.2 148 4 (by omega)]; exact h4, c_K_c (fun q _ => g1.2 150 q (by omega)) hK⟩
          obtain ⟨Mk, b1, b2, b3⟩ := ih (cl + 1) (l2 := l2 + 1) Z6 (by rw [show (l2 + 1 : Int32) = Int32.ofNat (cl + 1) from n_inc h2 (by omega), i_ofNat (by omega)]) (by simp; omega) (by omega) (by omega)
          rw [show 15 - (cl + 1) = 14 - cl by omega] at b3
          exact ⟨Mk, b1, z_tr f2 (z_tr g1.1 b2), b3⟩
        · obtain ⟨a1, a2⟩ := gc c256 c59
          rw [if_neg c59, a1, C_read_end]
          exact ⟨M6, rfl, z_tr f2 g1.1, c_Y57 X2 g1 gC a2 (by omega), 3 * (m :: ms).length, by rw [g1.2 148 4 (by omega)]; exact h4, by simp; omega⟩
theorem C_read {T M : gM} (Z : z_T T M) : ∃ Mk, F_X7_read (some 148) M = F_X7_read_b55 (some 148) Mk ∧ z_Fr M Mk ∧ c_T T (s_text T) Mk := by
  obtain ⟨⟨⟨k1, k2⟩, _⟩, ⟨⟨r0, r1⟩, _⟩⟩ := z_148 Z.1.1
  have k9 : g_k M 131 = (9, 0) := Z.1.1.1.1.1.1
  obtain ⟨M3, e3, f3, ⟨N, hE, hP⟩, h5, h7⟩ := C_split Z
  have Z3 := z_Tm Z f3
  have C3 : z_C T M3 (n_sk T 0) := ⟨Z3, N, 0, hE, hP, Nat.zero_le _, by rw [h5]; rfl, rfl⟩
  delta F_X7_read F_X7_read_b0
  rw [t_gR k1 r0, Option.bind_some, t_gO k9, Option.bind_some, e3, Option.bind_some]
  have k13 := (z_148 (z_CL C3)).1.1.1
  rw [t_pI k13, Option.bind_some]
  obtain ⟨M4, e4⟩ : ∃ M4, M4 = mI M3 148 3 (0 : Int32) := ⟨_, rfl⟩
  rw [← e4]
  have k14 : g_k M4 148 = (7, 0) := by rw [e4]; exact k13
  rw [t_pI k14, Option.bind_some]
  obtain ⟨M5, e5⟩ : ∃ M5, M5 = mI M4 148 4 (0 : Int32) := ⟨_, rfl⟩
  rw [← e5]
  have k15 : g_k M5 148 = (7, 0) := by rw [e5]; exact k14
  rw [t_pI k15, Option.bind_some]
  obtain ⟨M6, e6⟩ : ∃ M6, M6 = mI M5 148 5 (0 : Int32) := ⟨_, rfl⟩
  rw [← e6]
  have f6 : z_Fr M3 M6 := by
    rw [e6]
    refine z_tr ?_ (z_up (by unfold z_W; omega))
    rw [e5]
    refine z_tr ?_ (z_up (by unfold z_W; omega))
    rw [e4]
    exact z_up (by unfold z_W; omega)
  have C6 : z_C T M6 (n_sk T 0) := by
    rw [e6]
    refine z_Cmi ?_ (by unfold z_W; omega) (Or.inr (Or.inl rfl))
    rw [e5]
    refine z_Cmi ?_ (by unfold z_W; omega) (Or.inr (Or.inl rfl))
    rw [e4]
    exact z_Cmi C3 (by unfold z_W; omega) (Or.inr (Or.inl rfl))
  have a7 : M6.2.1 131 7 = 0 := by rw [e6, mI_ne (Or.inl (by decide)), e5, mI_ne (Or.inl (by decide)), e4, mI_ne (Or.inl (by decide)), h7]
  have b5 : M6.2.1 148 5 = 0 := by rw [e6]; exact y_mI1
  have b4 : M6.2.1 148 4 = 0 := by rw [e6, mI_ne (Or.inr (by decide)), e5]; exact y_mI1
  have b3 : M6.2.1 148 3 = 0 := by rw [e6, mI_ne (Or.inr (by decide)), e5, mI_ne (Or.inr (by decide)), e4]; exact y_mI1
  have Z6 : c_Z T M6 (n_sk T 0, 0, []) [] := ⟨⟨⟨C6, a7⟩, ⟨by rw [b5]; rfl, Nat.zero_le _⟩, ⟨by rw [b3]; rfl, trivial⟩, Nat.zero_le _⟩, by rw [b4]; rfl, trivial⟩
  obtain ⟨Mk, c1, c2, c3⟩ := C_read_L26 g_fuel 1 (l2 := (1 : Int32)) Z6 rfl rfl (by decide) (by have : g_fuel = 1000000000 := rfl; omega)
  exact ⟨Mk, c1, z_tr f3 (z_tr f6 c2), c3⟩
/-- the class's cells keep their ranges -/
theorem z_qHT {M M' : gM} (H : q_HT 0 M) (L : z_L M) (f : z_Fr M M') (h1 : (0 ≤ (M'.2.1 131 4).toInt ∧ (M'.2.1 131 4).toInt ≤ 401) ∧ (0 ≤ (M'.2.1 131 5).toInt ∧ (M'.2.1 131 5).toInt ≤ 401)) (h2 : (0 ≤ (M'.2.1 148 3).toInt ∧ (M'.2.1 148 3).toInt ≤ 400) ∧ (0 ≤ (M'.2.1 148 4).toInt ∧ (M'.2.1 148 4).toInt ≤ 36)) : q_HT 0 M' := by
  have hk : ∀ i, g_k M' i = g_k M i := fun i => q_k_of f.1.1
  obtain ⟨⟨⟨⟨k1, k2⟩, ⟨k3, k4⟩, k5⟩, ⟨k6, k7⟩, k8⟩, _⟩ := L
  refine ⟨⟨by rw [f.1.1]; exact H.1.1, by rw [hk]; exact H.1.2⟩, fun i hi hx k => ?_⟩
  have h9 := H.2 i hi hx k
  rw [hk, f.1.2.2]
  refine ⟨q_okR_mo q_tR_kd (fun j q K _ => ⟨K.1, by rw [hk]; exact K.2⟩) h9.1, ?_⟩
  have arr : ∀ {n : Nat}, g_k M i = (20, n) → (q_tI (g_k M i) k).1 ≤ (M'.2.1 i k).toInt ∧ (M'.2.1 i k).toInt ≤ (q_tI (g_k M i) k).2 := by
    intro n h
    rw [h, q_tI_full (by show 12 ≤ 20; decide)]
    exact i_rng _
  by_cases c : z_W i k
  · rcases c with ⟨e, c⟩ | (e | e | e) | ⟨e, c⟩ | e | e
    · subst e
      rw [k1]
      rcases c with e | e | e
      · subst e; exact h1.1
      · subst e; exact h1.2
      · subst e; exact i_rng _
    · subst e; exact arr k3
    · subst e; exact arr k4
    · subst e; exact arr k5
    · subst e
      rw [k6]
      rcases c with e | e | e
      · subst e; exact h2.1
      · subst e; exact h2.2
      · subst e; exact i_rng _
    · subst e; exact arr k7
    · subst e; exact arr k8
  · rw [f.2 i k c]
    exact h9.2
theorem z_C_r {T M : gM} {p : Nat} (C : z_C T M p) : (0 ≤ (M.2.1 131 4).toInt ∧ (M.2.1 131 4).toInt ≤ 401) ∧ (0 ≤ (M.2.1 131 5).toInt ∧ (M.2.1 131 5).toInt ≤ 401) := by
  have hs := z_Cs C
  obtain ⟨Z, N, j, hE, ⟨p1, p2⟩, hj, h5, hp⟩ := C
  have := z_E_le hE
  omega
/-- rule(): the number of the rule, or the FAULT -/
theorem C_rule {T M : gM} (H : q_HT 0 M) (K : q_Kd M 2 (11, 0)) (Z : z_T T M) (r2 : M.2.2.2 2 0 = some 131 ∧ M.2.2.2 2 2 = some 148) (h12 : (M.2.1 2 12).toInt ≠ 6) : Ok (F_X11_rule (some 2) M) (fun r => (r.2.2.1 131 6 = 0 ∧ r.2.2.1 132 = M.2.1 132) ∧ (match s_text T with
    | .inl e => (∃ w : Int32, r.1 = (-2 : Int32) - w ∧ w.toInt = (e : Int)) ∧ r.2.2.1 2 12 = M.2.1 2 12
    | .inr _ => r.1 = M.2.1 2 12 ∧ (r.2.2.1 2 12).toInt = (M.2.1 2 12).toInt + 1)) := by
  delta F_X11_rule F_X11_rule_b0
  refine d_gI (lo := 0) (hi := 6) H K (by decide) rfl (fun v1 q1 e1 => ?_)
  refine d_gR (q := (25, 6)) H K (by decide) rfl (fun v2 rr2 K2 => ?_)
  refine c_aN K2 (by decide) (by decide) (fun v3 e3 => ?_)
  refine Ok_t (Int32.lt_iff_toInt_lt.mpr (by rw [q1] at h12; omega)) ?_
  obtain ⟨Mk, c1, c2, c3⟩ := C_read Z
  refine c_gRs K r2.2 ?_
  have k148 := (z_148 Z.1.1).1.1.1
  rw [t_gO k148, Option.bind_some, c1]
  have Lk := z_Lm Z.1.1 c2
  have Kk : q_Kd Mk 2 (11, 0) := ⟨K.1, by rw [q_k_of c2.1.1]; exact K.2⟩
  have rk0 : Mk.2.2.2 2 0 = some 131 := by rw [c2.1.2.2]; exact r2.1
  have K148 : q_Kd Mk 148 (7, 0) := ⟨Or.inl (by decide), (z_148 Lk).1.1.1⟩
  have o12 : Mk.2.1 2 12 = M.2.1 2 12 := c2.2 2 12 (by unfold z_W; omega)
  have o132 : Mk.2.1 132 = M.2.1 132 := funext (fun k => c2.2 132 k (by unfold z_W; omega))
  have hl2 : 2 < Mk.1.length := q_kl (by rw [Kk.2]; decide)
  have K131 : g_k Mk 131 = (9, 0) := Lk.1.1.1.1
  have hl131 : 131 < Mk.1.length := q_kl (by rw [K131]; decide)
  have K132 : g_k Mk 132 = (22, 400) := Lk.1.1.1.2
  have hl132 : 132 < Mk.1.length := q_kl (by rw [K132]; decide)
  cases hit : s_text T with
  | inl e =>
    rw [hit] at c3
    obtain ⟨Y, nm, h4, hn4⟩ := c3
    obtain ⟨p, C⟩ := Y.1
    obtain ⟨⟨⟨k1, k2⟩, _⟩, ⟨⟨r0, r1⟩, _⟩⟩ := z_148 (z_CL C)
    have k9 := z_k131 C
    delta F_X7_read_b55
    rw [t_gR k1 r0, Option.bind_some, t_gO k9, Option.bind_some, C_faulty k9, Option.bind_some, if_neg (c_Yn Y), if_neg (by decide), Option.bind_some]
    dsimp only
    rw [t_gR Kk.2 rk0, Option.bind_some, t_pI k9, Option.bind_some]
    have g2 : g_k (mI Mk 131 6 (0 : Int32)) 2 = (11, 0) := Kk.2
    have g9 : g_k (mI Mk 131 6 (0 : Int32)) 131 = (9, 0) := k9
    rw [if_pos rfl, t_gR g2 rk0, Option.bind_some, t_gI g9, Option.bind_some]
    refine Ok_s ⟨⟨y_mI1, ?_⟩, ?_, ?_⟩
    · show (mI Mk 131 6 (0 : Int32)).2.1 132 = _
      rw [← o132]
      exact funext (fun k => mI_ne (Or.inl (by decide)))
    · exact ⟨_, rfl, by rw [mI_ne (Or.inr (by decide))]; exact Y.2.1⟩
    · show (mI Mk 131 6 (0 : Int32)).2.1 2 12 = _
      rw [mI_ne (Or.inl (by decide)), o12]
  | inr yms =>
    obtain ⟨y, ms⟩ := yms
    rw [hit] at c3
    obtain ⟨⟨X, h4, hK⟩, hms⟩ := c3
    have C := X.1.1
    have hz := z_Cs C
    have k9 := z_k131 C
    have hl := X.2.2.1.1
    have hle := X.2.2.2
    have Hk : q_HT 0 Mk := z_qHT H Z.1.1 c2 (z_C_r C) ⟨by omega, by omega⟩
    obtain ⟨⟨v6, M7⟩, e7, en, H7, f7⟩ := S_X7_read_b55 (b := q_ba) Hk K148
    dsimp only at en H7 f7
    have some6 : ∃ j, v6 = some j := by
      have e8 : F_X7_read_b55 (some 148) Mk = some (v6, M7) := e7
      unfold F_X7_read_b55 at e8
      obtain ⟨⟨⟨k1, k2⟩, _⟩, ⟨⟨r0, r1⟩, _⟩⟩ := z_148 (z_CL C)
      rw [t_gR k1 r0, Option.bind_some, t_gO k9, Option.bind_some, C_faulty k9, Option.bind_some, if_pos X.1.2, if_pos rfl] at e8
      obtain ⟨_, _, e8⟩ := g_bd e8
      obtain ⟨_, _, e8⟩ := g_bd e8
      obtain ⟨⟨_, _⟩, _, e8⟩ := g_bd e8
      dsimp only at e8
      obtain ⟨_, _, e8⟩ := g_bd e8
      obtain ⟨_, _, e8⟩ := g_bd e8
      obtain ⟨⟨_, _⟩, _, e8⟩ := g_bd e8
      dsimp only at e8
      obtain ⟨_, _, e8⟩ := g_bd e8
      cases e8
      exact ⟨_, rfl⟩
    obtain ⟨j6, ej⟩ := some6
    subst ej
    rw [e7, Option.bind_some]
    dsimp only
    have K7 := q_mo Kk (by decide) f7
    have g131 : g_k M7 131 = (9, 0) := by rw [f7.1.2 131 hl131]; exact K131
    have rk7 : M7.2.2.2 2 0 = some 131 := by rw [f7.2.2.2 2 hl2 0 (by rw [Kk.2]; rfl)]; exact rk0
    have o7 : M7.2.1 2 12 = M.2.1 2 12 := by rw [f7.2.2.1 2 hl2 12 (by rw [Kk.2]; rfl)]; exact o12
    have o7b : M7.2.1 132 = M.2.1 132 := by rw [← o132]; exact funext (fun k => f7.2.2.1 132 hl132 k (by rw [K132]; rfl))
    rw [t_gR K7.2 rk7, Option.bind_some, t_pI g131, Option.bind_some, if_neg (by simp)]
    have K9 : q_Kd (mI M7 131 6 (0 : Int32)) 2 (11, 0) := ⟨K7.1, K7.2⟩
    have K131' : q_Kd M7 131 (9, 0) := ⟨Or.inl (by decide), g131⟩
    obtain ⟨H9, f9⟩ := u_pI (b := q_bs) (k := 6) (v := (0 : Int32)) (lo := 0) (hi := 400) H7 K131' (by decide) rfl (by decide) (by decide)
    have a6 : (mI M7 131 6 (0 : Int32)).2.1 131 6 = 0 := y_mI1
    have o9 : (mI M7 131 6 (0 : Int32)).2.1 2 12 = M.2.1 2 12 := (mI_ne (Or.inl (by decide))).trans o7
    have o9b : (mI M7 131 6 (0 : Int32)).2.1 132 = M.2.1 132 := (funext (fun k => mI_ne (Or.inl (by decide)))).trans o7b
    have enn : ∃ i, (some j6 : Option Nat) = some i ∧ q_Kd M7 i (6, 0) := by
      rcases en with h | h
      · cases h
      · exact h
    obtain ⟨j, ej, Kj⟩ := enn
    cases ej
    have Kj9 := q_mo Kj (by decide) f9
    have hl131' : 131 < (mI M7 131 6 (0 : Int32)).1.length := q_kl (by show (g_k M7 131).1 < 90; rw [g131]; decide)
    have g131'' : g_k (mI M7 131 6 (0 : Int32)) 131 = (9, 0) := g131
    have g132'' : g_k (mI M7 131 6 (0 : Int32)) 132 = (22, 400) := by show g_k M7 132 = _; rw [f7.1.2 132 hl132]; exact K132
    have hl132' : 132 < (mI M7 131 6 (0 : Int32)).1.length := q_kl (by rw [g132'']; decide)
    generalize mI M7 131 6 (0 : Int32) = M9 at K9 H9 f9 a6 o9 o9b Kj9 hl131' g131'' g132'' hl132' ⊢
    refine d_gR (q := (25, 6)) H9 K9 (by decide) rfl (fun v10 r10 K10 => ?_)
    refine c_gIs K9 (o9.trans q1) (fun v11 e11 => ?_)
    have t11 := congrArg Int32.toInt e11
    refine c_sR25 (b := q_ba) H9 K10 Kj9 (by rw [q1] at h12; omega) (by rw [q1] at h12; omega) (fun M12 H12 f12 o12' => ?_)
    have Kc := q_mo K9 (by decide) f12
    have e12 : M12.2.1 2 12 = v1 := (congrFun (congrFun o12' _) 12).trans (o9.trans q1)
    refine c_gIs Kc e12 (fun v13 e13 => ?_)
    have t13 := congrArg Int32.toInt e13
    have a1 := i_addc (x := v13) (c := (1 : Int32)) (n := 1) rfl (by omega) (by omega)
    rw [t_pI Kc.2, Option.bind_some]
    have gd : g_k (mI M12 2 12 (v13 + (1 : Int32))) 2 = (11, 0) := Kc.2
    rw [t_gI gd, Option.bind_some, y_mI1]
    refine Ok_s ⟨⟨?_, ?_⟩, ?_, ?_⟩
    · show (mI M12 2 12 (v13 + (1 : Int32))).2.1 131 6 = 0
      rw [mI_ne (Or.inl (by decide)), congrFun (congrFun o12' 131) 6]
      exact a6
    · show (mI M12 2 12 (v13 + (1 : Int32))).2.1 132 = _
      rw [← o9b, ← congrFun o12' 132]
      exact funext (fun k => mI_ne (Or.inl (by decide)))
    · show v13 + (1 : Int32) - (1 : Int32) = _
      rw [q1]
      refine Int32.toInt_inj.mp ?_
      rw [i_subc (n := 1) rfl (by omega) (by omega)]
      omega
    · show ((mI M12 2 12 (v13 + (1 : Int32))).2.1 2 12).toInt = _
      rw [y_mI1, q1]
      omega
-- 71.eref
/-! the reference reads as the document says: VALUES and SUMS -/
theorem n_T {M T : gM} (h1 : n_b M = n_b T) (h2 : n_s M = n_s T) : ((n_L M = n_L T ∧ n_D M = n_D T) ∧ (n_sk M = n_sk T ∧ n_le M = n_le T) ∧ n_de M = n_de T) ∧ (n_w M = n_w T ∧ n_v M = n_v T) ∧ (n_ok M = n_ok T ∧ n_c M = n_c T) ∧ n_wh M = n_wh T := by
  have eL : n_L M = n_L T := by funext p; unfold n_L; rw [h1, h2]
  have eD : n_D M = n_D T := by funext p; unfold n_D; rw [h1, h2]
  have eB : n_B M = n_B T := by funext p; unfold n_B; rw [h1, h2]
  have esk : n_sk M = n_sk T := by funext p; unfold n_sk; rw [eB, h2]
  have ele : n_le M = n_le T := by funext p; unfold n_le; rw [eL, h2]
  have ede : n_de M = n_de T := by funext p; unfold n_de; rw [eD, h2]
  have ew : n_w M = n_w T := by funext p w; unfold n_w; rw [ele, h1]
  have ev : n_v M = n_v T := by funext p; unfold n_v; rw [ede, h1]
  have eo : n_ok M = n_ok T := by funext p a b; unfold n_ok; rw [ede, ev]
  have ec : n_c M = n_c T := by funext p; unfold n_c; rw [h1, h2]
  have eh : n_wh M = n_wh T := by funext p; unfold n_wh; rw [ew]
  exact ⟨⟨⟨eL, eD⟩, ⟨esk, ele⟩, ede⟩, ⟨ew, ev⟩, ⟨eo, ec⟩, eh⟩
def e_map (n : Nat) : Nat := if n = 6 then 14 else if n = 7 then 6 else if n = 8 then 7 else if n = 9 then 8 else if n = 10 then 9 else if n = 11 then 10 else if n = 14 then 11 else n
/-- the reference's step -/
def e_r (a : Nat × Int32) : Int32 := Int32.ofNat (e_map a.1) + (16 : Int32) * a.2
def r_O (f : Nat → Int32) : List (Nat × Int32) → Prop
  | [] => True
  | a :: o => f o.length = e_r a ∧ r_O f o
theorem r_O_c {f g : Nat → Int32} : ∀ {o : List (Nat × Int32)}, (∀ q, q < o.length → g q = f q) → r_O f o → r_O g o := by
  intro o
  induction o with
  | nil => intro _ _; trivial
  | cons a o ih =>
    intro h hc
    exact ⟨(h o.length (by simp)).trans hc.1, ih (fun q hq => h q (by simp; omega)) hc.2⟩
def r_X (T : gM) (t : Nat) (M : gM) (x : sS) : Prop := (n_b M = n_b T ∧ n_s M = n_s T) ∧ n_sk T (n_x M) = x.1 ∧ (M.2.1 175 9 = 0 ∧ n_m M = x.2.1) ∧ (n_l M t = x.2.2.length ∧ r_O (y_sn M t) x.2.2)
def e_R (T : gM) (t : Nat) (r : s_R) : Int32 × gM → Prop := fun y => match r with
  | .inl e => y.1 = 0 ∧ (y.2.2.1 175 9).toInt = (e : Int)
  | .inr x => y.1 = 1 ∧ r_X T t y.2 x
theorem n_f_0 {M : gM} {k p : Int32} {q d : Nat} (h : M.2.1 175 9 = 0) (hp : p.toInt = (q : Int)) (hq : q ≤ 400) (hk : k.toInt = (d : Int)) (hd : d ≤ 7) : ((n_f M k p).2.1 175 9).toInt = ((1 + 8 * q + d : Nat) : Int) := by
  unfold n_f
  rw [if_pos h, y_mI1]
  have a1 := i_mulL (c := (8 : Int32)) (x := p) (n := 8) rfl (by omega) (by omega)
  have a2 := i_cadd (c := (1 : Int32)) (x := (8 : Int32) * p) (n := 1) rfl (by omega) (by omega)
  have a3 := i_add (x := (1 : Int32) + (8 : Int32) * p) (y := k) (by omega) (by omega)
  omega
/-- what moves the reader's place alone -/
theorem r_Xat {T : gM} {t p : Nat} {M : gM} {x : sS} {q : Nat} (X : r_X T t M x) (h : p ≤ 400) (hq : n_sk T p = q) : r_X T t (n_at M p) (q, x.2) := by
  refine ⟨⟨n_at_b.trans X.1.1, n_at_s.trans X.1.2⟩, by rw [n_at_x h]; exact hq, ⟨by rw [n_atk (by decide)]; exact X.2.2.1.1, n_at_m.trans X.2.2.1.2⟩, n_at_l.trans X.2.2.2.1, ?_⟩
  exact r_O_c (fun j _ => congrFun (n_ata (i := 177) (by decide)) _) X.2.2.2.2
theorem r_Xsee {T : gM} {t : Nat} {M : gM} {x : sS} (X : r_X T t M x) (H : y_HT M) (h : n_x M ≤ n_s M) : n_sk M (n_x M) = x.1 ∧ r_X T t (n_at M x.1) x := by
  have e := (n_T X.1.1 X.1.2).1.2.1.1
  have s1 := n_s1 H
  have hk := n_sk_le h
  have e1 : n_sk M (n_x M) = x.1 := by rw [e]; exact X.2.1
  refine ⟨e1, ?_⟩
  have := r_Xat (p := x.1) (q := x.1) X (by omega) (by rw [← X.2.1, n_sk_sk])
  exact this
/-- a step is put -/
theorem r_Xput {T : gM} {t : Nat} {M : gM} {x : sS} {w : Int32} {a : Nat × Int32} (X : r_X T t M x) (H : y_HT M) (hl : n_l M t < 400) (hw : w = e_r a) : r_X T t (n_p M t w) (s_push x a) := by
  have o : ∀ i k, i ≠ 177 → ¬ (i = 178 ∧ k = t) → (n_p M t w).2.1 i k = M.2.1 i k := fun i k h1 h2 => by unfold n_p; rw [mI_ne (by omega), mI_ne (Or.inl h1)]
  have eb : n_b (n_p M t w) = n_b M := funext (fun q => o 176 q (by decide) (by omega))
  have es : n_s (n_p M t w) = n_s M := by unfold n_s; rw [o 175 1 (by decide) (by omega)]
  have ex : n_x (n_p M t w) = n_x M := by unfold n_x; rw [o 175 8 (by decide) (by omega)]
  have em : n_m (n_p M t w) = n_m M := by unfold n_m; rw [o 175 12 (by decide) (by omega)]
  refine ⟨⟨eb.trans X.1.1, es.trans X.1.2⟩, by rw [ex]; exact X.2.1, ⟨by rw [o 175 9 (by decide) (by omega)]; exact X.2.2.1.1, em.trans X.2.2.1.2⟩, ?_, ?_, ?_⟩
  · rw [n_p_l hl, X.2.2.2.1]
    rfl
  · show (n_p M t w).2.1 177 (400 * t + x.2.2.length) = _
    unfold n_p
    rw [mI_ne (Or.inl (by decide)), ← X.2.2.2.1, y_mI1]
    exact hw
  · refine r_O_c (fun j hj => ?_) X.2.2.2.2
    show (n_p M t w).2.1 177 (400 * t + j) = M.2.1 177 (400 * t + j)
    unfold n_p
    rw [mI_ne (Or.inl (by decide)), mI_ne (Or.inr (by have := X.2.2.2.1; omega))]
theorem r_Xmk {T : gM} {t : Nat} {M : gM} {x : sS} (X : r_X T t M x) (H : y_HT M) (h : ¬ n_m M = 60) : r_X T t (n_mk M) (x.1, x.2.1 + 1, x.2.2) := by
  have o : ∀ i k, i ≠ 175 ∨ k ≠ 12 → (n_mk M).2.1 i k = M.2.1 i k := fun i k h => by unfold n_mk; rw [mI_ne h]
  have em := (n_mk_set H h).2
  refine ⟨⟨(funext (fun q => o 176 q (Or.inl (by decide)))).trans X.1.1, ?_⟩, ?_, ⟨by rw [o _ _ (Or.inr (by decide))]; exact X.2.2.1.1, by rw [em, X.2.2.1.2]⟩, ?_, r_O_c (fun j _ => o 177 _ (Or.inl (by decide))) X.2.2.2.2⟩
  · rw [← X.1.2]
    unfold n_s
    rw [o _ _ (Or.inr (by decide))]
  · have : n_x (n_mk M) = n_x M := by unfold n_x; rw [o _ _ (Or.inr (by decide))]
    rw [this]
    exact X.2.1
  · rw [← X.2.2.2.1]
    unfold n_l
    rw [o _ _ (Or.inl (by decide))]
/-! words of VALUES -/
theorem k_letter {T : gM} {p : Nat} (h : n_L T p = true) : k_kind T p = k_w T p := by
  have h1 : p < n_s T := (of_decide_eq_true h).1
  unfold k_kind
  rw [if_neg (by omega), if_pos h]
theorem n_w_L {T : gM} {p : Nat} {w : Int64} (h : n_w T p w = true) : n_L T p = true := by
  have h1 := n_w_le h
  by_cases c : n_L T p = true
  · exact c
  · rw [n_le_stop c] at h1
    omega
theorem k_nl_r {T : gM} {p : Nat} (h : ¬ n_L T p = true) : k_kind T p ≤ 259 := by
  unfold k_kind
  by_cases c0 : n_s T ≤ p
  · rw [if_pos c0]; omega
  · rw [if_neg c0, if_neg h]
    by_cases c2 : n_D T p = true
    · rw [if_pos c2]; omega
    · rw [if_neg c2]
      by_cases c3 : k_two T p = true
      · rw [if_pos c3]; split <;> omega
      · rw [if_neg c3]
        have : n_ca T p = n_b T p &&& 255 := by
          unfold n_ca
          rw [if_pos (by omega)]
        rw [this]
        have := (i_andc (a := n_b T p) (m := (255 : Int32)) (n := 255) rfl (by decide)).2
        omega
theorem w_iff {T : gM} {p i : Nat} {w : Int64} (hi : i < 22) (hw : w.toBitVec.toNat = w_pk (w_all.getD i [])) : n_w T p w = true ↔ k_kind T p = 261 + (i : Int) := by
  by_cases c : n_L T p = true
  · rw [k_letter c]
    exact w_num hi hw
  · constructor
    · intro h
      exact absurd (n_w_L h) c
    · intro h
      have := k_nl_r c
      omega
theorem n_wh_k {T : gM} {p : Nat} : (0 ≤ n_wh T p ↔ 261 ≤ k_kind T p ∧ k_kind T p ≤ 274) ∧ (261 ≤ k_kind T p ∧ k_kind T p ≤ 274 → n_wh T p = Int32.ofInt (k_kind T p - 261)) := by
  have g := fun (i : Nat) (w : Int64) (hi : i < 22) (hw : w.toBitVec.toNat = w_pk (w_all.getD i [])) => w_iff (T := T) (p := p) hi hw
  have st : ∀ {w : Int64} {r : Int32} (i : Nat), i < 14 → w.toBitVec.toNat = w_pk (w_all.getD i []) → (k_kind T p ≠ 261 + (i : Int) → ((0 ≤ r ↔ 261 ≤ k_kind T p ∧ k_kind T p ≤ 274) ∧ (261 ≤ k_kind T p ∧ k_kind T p ≤ 274 → r = Int32.ofInt (k_kind T p - 261)))) → ((0 ≤ (if n_w T p w = true then Int32.ofNat i else r) ↔ 261 ≤ k_kind T p ∧ k_kind T p ≤ 274) ∧ (261 ≤ k_kind T p ∧ k_kind T p ≤ 274 → (if n_w T p w = true then Int32.ofNat i else r) = Int32.ofInt (k_kind T p - 261))) := by
    intro w r i hi hw h
    have gi := g i w (by omega) hw
    by_cases c : n_w T p w = true
    · have e := gi.mp c
      rw [if_pos c]
      refine ⟨⟨fun _ => by omega, fun _ => Int32.le_iff_toInt_le.mpr (by rw [i_ofNat (by omega)]; show (0 : Int) ≤ _; omega)⟩, fun _ => ?_⟩
      rw [show k_kind T p - 261 = (i : Int) by omega]
      exact (i_of (x := Int32.ofInt (i : Int)) (by rw [Int32.toInt_ofInt_of_le (by omega) (by omega)]) (by omega)).symm
    · rw [if_neg c]
      exact h (fun e => c (gi.mpr e))
  unfold n_wh
  refine st 0 (by decide) (by decide) (fun e0 => st 1 (by decide) (by decide) (fun e1 => st 2 (by decide) (by decide) (fun e2 => st 3 (by decide) (by decide) (fun e3 => st 4 (by decide) (by decide) (fun e4 => st 5 (by decide) (by decide) (fun e5 => st 6 (by decide) (by decide) (fun e6 => st 7 (by decide) (by decide) (fun e7 => st 8 (by decide) (by decide) (fun e8 => st 9 (by decide) (by decide) (fun e9 => st 10 (by decide) (by decide) (fun e10 => st 11 (by decide) (by decide) (fun e11 => st 12 (by decide) (by decide) (fun e12 => st 13 (by decide) (by decide) (fun e13 => ?_))))))))))))))
  have z : ¬ (261 ≤ k_kind T p ∧ k_kind T p ≤ 274) := by omega
  exact ⟨⟨fun h => absurd h (by decide), fun h => absurd h z⟩, fun h => absurd h z⟩
theorem k_go_L {T : gM} {p : Nat} (h : n_L T p = true) : k_go T p = n_sk T (n_le T p) := by
  have h1 : p < n_s T := (of_decide_eq_true h).1
  unfold k_go k_nx k_end
  rw [if_pos h1, if_pos h]
theorem E_value {T : gM} {t a d c : Nat} {M : gM} {x : sS} (I : p_I t a d c M) (X : r_X T t M x) : Ok (F_X12_value (some 175) M) (e_R T t (s_val T x)) := by
  have H := I.1.1.1
  have ht := I.1.1.2
  have hx := I.2.1
  have s1 := n_s1 H
  have k1 := n_sk_le hx.2
  obtain ⟨p, hp⟩ : ∃ p, p = n_sk M (n_x M) := ⟨_, rfl⟩
  obtain ⟨ex, X1⟩ := r_Xsee X H hx.2
  have px : p = x.1 := hp.trans ex
  rw [← px] at X1
  rw [← hp] at k1
  obtain ⟨⟨⟨eL, eD⟩, ⟨esk, ele⟩, ede⟩, ⟨ew, ev⟩, ⟨eo, ec⟩, eh⟩ := n_T X.1.1 X.1.2
  have H1 : y_HT (n_at M p) := n_atH H (by omega)
  have I1 : p_I t a d c (n_at M p) := p_I_at I (by omega) (by omega)
  have xe : (n_at M p).2.1 175 8 = Int32.ofNat p := n_at8
  have xi : (Int32.ofNat p).toInt = (p : Int) := i_ofNat (by omega)
  have x1 : n_x (n_at M p) = p := n_at_x (by omega)
  have w0 : (n_at M p).2.1 175 9 = 0 := X1.2.2.1.1
  delta F_X12_value F_X12_value_b0 F_X12_value_b39
  rw [e_gO H, Option.bind_some, R_see H hx.2, Option.bind_some, ← hp]
  dsimp only
  rw [e_gI H1, Option.bind_some, Option.bind_some, e_gC H1, Option.bind_some, xe, R_isDigit H1 xi, Option.bind_some, n_at_D]
  unfold s_val
  rw [← px]
  by_cases cD : n_D M p = true
  · rw [if_pos cD, if_neg (by decide), if_pos (show n_D T p = true by rw [← eD]; exact cD)]
    rw [R_numberHere (p := p) H1 (by rw [x1, n_at_s]; omega) (by rw [x1, n_at_sk, hp, n_sk_sk]), Option.bind_some, n_at_D, if_pos cD]
    have A1 : n_an (n_at M p) p = n_an M p := by
      unfold n_an n_v
      rw [n_at_de, n_at_b, n_at_at]
    have A2 : n_ok (n_at M p) p (0 : Int32).toInt (99999 : Int32).toInt = n_ok T p 0 99999 := by
      rw [← eo]
      unfold n_ok n_v
      rw [n_at_de, n_at_b]
      rfl
    have hlt : p < n_s M := (of_decide_eq_true cD).1
    have d2 := (n_de_le (M := M) (p := p) (by omega)).2
    have d1 : p < n_de M p := by
      rw [n_de_step cD]
      have := (n_de_le (M := M) (p := p + 1) (by omega)).1
      omega
    obtain ⟨H2, f2⟩ := n_an_set (p := p) H (by omega)
    rw [A1, A2]
    have x2 : n_x (n_an M p) = n_de M p := by
      show ((n_an M p).2.1 175 8).toInt.toNat = _
      unfold n_an
      rw [mI_ne (Or.inr (by decide)), n_at8, i_ofNat (by omega)]
      omega
    have kgo : n_sk T (n_de M p) = k_go T p := by rw [ede]; exact (z_no_s (by rw [← eD]; exact cD)).symm
    have X2 : r_X T t (n_an M p) (k_go T p, x.2) := by
      have Xa : r_X T t (n_at M (n_de M p)) (k_go T p, x.2) := r_Xat X (by omega) kgo
      have o : ∀ i k, i ≠ 175 ∨ k ≠ 10 → (n_an M p).2.1 i k = (n_at M (n_de M p)).2.1 i k := fun i k h => by unfold n_an; rw [mI_ne h]
      refine ⟨⟨(funext (fun q => o 176 q (Or.inl (by decide)))).trans Xa.1.1, ?_⟩, ?_, ⟨by rw [o _ _ (Or.inr (by decide))]; exact Xa.2.2.1.1, ?_⟩, ?_, r_O_c (fun j _ => o 177 _ (Or.inl (by decide))) Xa.2.2.2.2⟩
      · rw [← Xa.1.2]; unfold n_s; rw [o _ _ (Or.inr (by decide))]
      · rw [x2]; exact kgo
      · rw [← Xa.2.2.1.2]; unfold n_m; rw [o _ _ (Or.inr (by decide))]
      · rw [← Xa.2.2.2.1]; unfold n_l; rw [o _ _ (Or.inl (by decide))]
    by_cases cO : n_ok T p 0 99999 = true
    · rw [if_pos cO, if_pos cO]
      dsimp only
      rw [if_neg (by decide), e_gC H2, Option.bind_some, R_makes H2, Option.bind_some]
      have em : n_m (n_an M p) = x.2.1 := X2.2.2.1.2
      by_cases cM : x.2.1 = 60
      · rw [if_pos (show n_m (n_an M p) = 60 from em.trans cM), if_pos cM]
        dsimp only
        rw [if_pos rfl]
        exact Ok_s ⟨rfl, n_f_0 X2.2.2.1.1 xi (by omega) rfl (by decide)⟩
      · have cM' : ¬ n_m (n_an M p) = 60 := by rw [em]; exact cM
        rw [if_neg cM', if_neg cM]
        dsimp only
        rw [if_neg (by decide)]
        obtain ⟨⟨H3, f3⟩, m3⟩ := n_mk_set H2 cM'
        have X3 := r_Xmk X2 H2 cM'
        have v3 : (n_mk (n_an M p)).2.1 175 10 = n_v M p := (mI_ne (Or.inr (by decide))).trans y_mI1
        have l3 : n_l (n_mk (n_an M p)) t < 400 := by
          have a1 := n_fl (t := t) f2 (by decide)
          have a2 := n_fl (t := t) f3 (by decide)
          omega
        have t3 : ((n_mk (n_an M p)).2.1 175 11).toInt = (t : Int) := by rw [y_fk (i := 175) (k := 11) f3 (by decide), y_fk (i := 175) (k := 11) f2 (by decide)]; exact I.1.2
        rw [e_gI H3, Option.bind_some, e_gC H3, Option.bind_some, v3, R_puts H3 ht t3 l3, Option.bind_some]
        exact Ok_s ⟨rfl, r_Xput (a := (0, n_v T p)) X3 H3 l3 (by rw [ev]; rfl)⟩
    · rw [if_neg cO, if_neg cO]
      dsimp only
      rw [if_pos rfl]
      exact Ok_s ⟨rfl, n_f_0 X2.2.2.1.1 xi (by omega) rfl (by decide)⟩
  · rw [if_neg cD, if_pos rfl, R_wordHere H hx.2 hp, Option.bind_some, if_neg (show ¬ n_D T p = true by rw [← eD]; exact cD)]
    dsimp only
    have w1 := n_wh_r (M := M) (p := p)
    have wk := n_wh_k (T := T) (p := p)
    by_cases cw : 0 ≤ n_wh M p
    · have cT : 261 ≤ k_kind T p ∧ k_kind T p ≤ 274 := wk.1.mp (by rw [← eh]; exact cw)
      have hle := w1.2 cw
      rw [if_pos cw, if_pos cT, e_gC H1, Option.bind_some, R_makes H1, Option.bind_some]
      have em : n_m (n_at M p) = x.2.1 := X1.2.2.1.2
      by_cases cM : x.2.1 = 60
      · rw [if_pos (show n_m (n_at M p) = 60 from em.trans cM), if_pos cM]
        dsimp only
        rw [if_pos rfl]
        exact Ok_s ⟨rfl, n_f_0 w0 xi (by omega) rfl (by decide)⟩
      · have cM' : ¬ n_m (n_at M p) = 60 := by rw [em]; exact cM
        rw [if_neg cM', if_neg cM]
        dsimp only
        rw [if_neg (by decide)]
        obtain ⟨⟨H3, f3⟩, m3⟩ := n_mk_set H1 cM'
        have X3 := r_Xmk X1 H1 cM'
        have x3 : n_x (n_mk (n_at M p)) = p := (n_fx f3 (by decide)).trans x1
        have s3 : n_s (n_mk (n_at M p)) = n_s M := (n_fs f3 (by decide)).trans n_at_s
        have l3 : n_le (n_mk (n_at M p)) p = n_le M p := (congrFun (n_fle f3 (by decide) (by decide)) p).trans n_at_le
        have e2 := (n_le_le (M := M) (p := p) (by omega)).2
        have hL : n_L T p = true := by
          by_cases c9 : n_L T p = true
          · exact c9
          · have := k_nl_r c9
            omega
        rw [e_gC H3, Option.bind_some, R_passWord H3 (by rw [x3, s3]; omega), Option.bind_some, x3, l3]
        have X4 : r_X T t (n_at (n_mk (n_at M p)) (n_le M p)) (k_go T p, x.2.1 + 1, x.2.2) := r_Xat X3 (by omega) (by rw [ele]; exact (k_go_L hL).symm)
        have H4 : y_HT (n_at (n_mk (n_at M p)) (n_le M p)) := n_atH H3 (by omega)
        have l4 : n_l (n_at (n_mk (n_at M p)) (n_le M p)) t < 400 := by
          rw [n_at_l]
          have a2 := n_fl (t := t) f3 (by decide)
          have a3 : n_l (n_at M p) t = n_l M t := n_at_l
          omega
        have t4 : ((n_at (n_mk (n_at M p)) (n_le M p)).2.1 175 11).toInt = (t : Int) := by rw [n_atk (by decide), y_fk (i := 175) (k := 11) f3 (by decide), n_atk (by decide)]; exact I.1.2
        rw [e_gC H4, Option.bind_some, R_puts H4 ht t4 l4, Option.bind_some]
        exact Ok_s ⟨rfl, r_Xput (a := (1, Int32.ofInt (k_kind T p - 261))) X4 H4 l4 (by rw [eh, wk.2 cT]; rfl)⟩
    · rw [if_neg cw, if_neg (show ¬ (261 ≤ k_kind T p ∧ k_kind T p ≤ 274) from fun h => cw (by rw [eh]; exact wk.1.mpr h)), e_gC H1, Option.bind_some, R_fails H1, Option.bind_some]
      dsimp only
      rw [if_pos (Or.inl rfl)]
      exact Ok_s ⟨rfl, n_f_0 w0 xi (by omega) rfl (by decide)⟩
-- 72.esum
/-! the reference reads as the document says: TERMS, SUMS, COMPARES -/
theorem i_a255 {x : Int32} (h1 : 0 ≤ x.toInt) (h2 : x.toInt ≤ 127) : x &&& 255 = x := Int32.toInt_inj.mp (by rw [i_and255 (by omega) h2, if_pos h1])
theorem n_ca_b {T : gM} (B : z_B T) {q n : Nat} {c : Int32} (hc : c.toInt = (n : Int)) (hn : n ≤ 127) : n_ca T q = c ↔ (q < n_s T ∧ n_b T q = c) := by
  constructor
  · intro h
    by_cases c1 : q < n_s T
    · refine ⟨c1, ?_⟩
      have h2 := n_ca_r B c1
      have h3 := (B.1 q).2
      rw [h, hc] at h2
      by_cases c0 : 0 ≤ (n_b T q).toInt
      · rw [if_pos c0] at h2
        exact Int32.toInt_inj.mp (by omega)
      · rw [if_neg c0] at h2
        have := (B.1 q).1
        omega
    · rw [n_ca_end (by omega)] at h
      subst h
      have : (256 : Int32).toInt = 256 := rfl
      omega
  · rintro ⟨h1, h2⟩
    unfold n_ca
    rw [if_pos h1, h2]
    exact i_a255 (by omega) (by omega)
/-- a sign, no letter and no digit -/
theorem k_sg {T : gM} {p n : Nat} {c : Int32} (h : n_c T p = c) (hc : c.toInt = (n : Int)) (h1 : n < 97 ∨ 122 < n) (h2 : n < 48 ∨ 57 < n) : (p < n_s T ∧ n_ca T p = c) ∧ ¬ n_L T p = true ∧ ¬ n_D T p = true := by
  have hlt := n_c_lt h (by omega)
  have e : n_b T p &&& 255 = c := by
    rw [← h]
    unfold n_c
    rw [if_pos hlt]
  refine ⟨⟨hlt, ?_⟩, fun z => ?_, fun z => ?_⟩
  · unfold n_ca
    rw [if_pos hlt]
    exact e
  · have z2 := (of_decide_eq_true z).2
    rw [i_a255 (by omega) (by omega)] at e
    rw [e] at z2
    omega
  · have z2 := (of_decide_eq_true z).2
    rw [i_a255 (by omega) (by omega)] at e
    rw [e] at z2
    omega
theorem k_s1 {T : gM} {p n : Nat} {c : Int32} (hc : c.toInt = (n : Int)) (h1 : n < 97 ∨ 122 < n) (h2 : n < 48 ∨ 57 < n) (h3 : n ≠ 60 ∧ n ≠ 62) (h4 : n < 256) : (n_c T p = c ↔ k_kind T p = (n : Int)) ∧ (n_c T p = c → k_go T p = n_sk T (p + 1)) := by
  have z60 : (60 : Int32).toInt = 60 := rfl
  have z62 : (62 : Int32).toInt = 62 := rfl
  have f : n_c T p = c → k_kind T p = (n : Int) ∧ k_go T p = n_sk T (p + 1) := by
    intro h
    obtain ⟨⟨a1, a2⟩, a3, a4⟩ := k_sg h hc h1 h2
    have a5 : ¬ k_two T p = true := by
      intro z
      rcases (of_decide_eq_true z).1 with e | e
      · rw [a2] at e
        rw [e] at hc
        omega
      · rw [a2] at e
        rw [e] at hc
        omega
    constructor
    · unfold k_kind
      rw [if_neg (by omega), if_neg a3, if_neg a4, if_neg a5, a2, hc]
    · unfold k_go k_nx k_end
      rw [if_pos a1, if_neg a3, if_neg a4, if_neg a5]
  refine ⟨⟨fun h => (f h).1, fun h => ?_⟩, fun h => (f h).2⟩
  unfold k_kind at h
  by_cases c0 : n_s T ≤ p
  · rw [if_pos c0] at h; omega
  rw [if_neg c0] at h
  by_cases cL : n_L T p = true
  · rw [if_pos cL] at h
    have := k_w_r (T := T) (p := p)
    omega
  rw [if_neg cL] at h
  by_cases cD : n_D T p = true
  · rw [if_pos cD] at h; omega
  rw [if_neg cD] at h
  by_cases c2 : k_two T p = true
  · rw [if_pos c2] at h
    split at h <;> omega
  rw [if_neg c2] at h
  have e : n_ca T p = c := Int32.toInt_inj.mp (h.trans hc.symm)
  unfold n_c
  unfold n_ca at e
  rw [if_pos (show p < n_s T by omega)] at e ⊢
  exact e
theorem s_jo3 {k : Int} (h1 : k ≠ 37) (h2 : k ≠ 42) (h3 : k ≠ 47) : s_jo 3 k = 0 := by
  unfold s_jo
  simp [h1, h2, h3]
theorem s_jo2 {k : Int} (h1 : k ≠ 43) (h2 : k ≠ 45) : s_jo 2 k = 0 := by
  unfold s_jo
  simp [h1, h2]
/-- a place further, over one sign -/
theorem r_Xnext {T : gM} {t p : Nat} {M : gM} {x : sS} (X : r_X T t M x) (px : p = x.1) (h : p + 1 ≤ 400) (hq : k_go T p = n_sk T (p + 1)) : r_X T t (n_at M (p + 1)) (k_go T x.1, x.2) := by
  subst px
  exact r_Xat X h hq.symm
theorem E_term_b74 {T : gM} {t a d c N : Nat} {s : Int32} {M : gM} {x : sS} {k : Option Nat → gM → Option (Int32 × gM)} (hs : (s = 4 ∧ k_kind T x.1 = 42) ∨ (s = 5 ∧ k_kind T x.1 = 47) ∨ (s = 14 ∧ k_kind T x.1 = 37)) (hq : k_go T x.1 = n_sk T (x.1 + 1)) (hk : ∀ {M1 : gM} {y : sS}, p_I t a (d + 1) c M1 → r_X T t M1 y → n_x M < n_x M1 → n_s M1 = n_s M → Ok (k (some 175) M1) (e_R T t (s_loop T 3 (s_val T) N y))) (I : p_I t a (d + 1) c M) (X : r_X T t M x) (xx : n_x M = x.1) (hx : n_x M < n_s M) : Ok (F_X12_term_b74 k (some 175) s M) (e_R T t (s_loop T 3 (s_val T) (N + 1) x)) := by
  have H := I.1.1.1
  have s1 := n_s1 H
  obtain ⟨e1, I1, F1, x1⟩ := p_next (S := p_E) I hx (by decide)
  have X1 := r_Xnext X xx (by omega) (by rw [xx]; exact hq)
  have j1 : ¬ s_jo 3 (k_kind T x.1) = 0 := by rcases hs with ⟨_, e⟩ | ⟨_, e⟩ | ⟨_, e⟩ <;> (rw [e]; decide)
  have j2 : s = e_r (s_jo 3 (k_kind T x.1), 0) := by rcases hs with ⟨e0, e⟩ | ⟨e0, e⟩ | ⟨e0, e⟩ <;> (rw [e0, e]; decide)
  have hB : s = 4 ∨ s = 5 ∨ s = 14 := hs.imp And.left (Or.imp And.left And.left)
  show Ok _ (e_R T t (if s_jo 3 (k_kind T x.1) = 0 then _ else _))
  rw [if_neg j1]
  delta F_X12_term_b74
  rw [e_gI H, Option.bind_some, e_pI H, Option.bind_some, e1]
  generalize n_at M (n_x M + 1) = M1 at I1 F1 x1 X1 ⊢
  have H1 := I1.1.1.1
  rw [e_gO H1, Option.bind_some]
  refine Ok_b (Ok_and (P_value I1) (E_value I1 X1)) (fun y z => ?_)
  obtain ⟨v4, M5⟩ := y
  obtain ⟨⟨⟨H5, F5⟩, P⟩, E⟩ := z
  dsimp only at P E H5 F5 ⊢
  generalize s_val T (k_go T x.1, x.2) = r at E ⊢
  cases r with
  | inl e =>
    obtain ⟨h5, g5⟩ := E
    dsimp only at h5 g5
    subst h5
    rw [if_pos rfl]
    exact Ok_s ⟨rfl, g5⟩
  | inr y =>
    obtain ⟨h5, X5⟩ := E
    dsimp only at h5 X5
    subst h5
    rcases P with ⟨h5, _⟩ | ⟨_, I5, x5⟩
    · exact absurd h5 (by decide)
    rw [if_neg (by decide), e_gC H5, Option.bind_some, R_puts H5 I5.1.1.2 I5.1.2 (by have := I5.2.1; have := n_s1 H5; omega), Option.bind_some]
    obtain ⟨I6, F6, x6⟩ := p_puts (S := p_E) (d2 := d + 1) I5 (y_stB (w := s) (by rcases hB with e | e | e <;> subst e <;> decide)) (by have := I5.2.2.2; omega) (by decide)
    have F := p_F_tr F1 (p_F_tr F5 F6)
    have X6 := r_Xput X5 H5 (by have := I5.2.1; have := n_s1 H5; omega) (w := s + (16 : Int32) * (0 : Int32)) (a := (s_jo 3 (k_kind T x.1), 0)) (by rw [← j2]; rcases hB with e | e | e <;> (subst e; rfl))
    exact hk I6 X6 (by omega) (n_Fs F (by decide))
theorem E_term_L9 {T : gM} (B : z_B T) {t a d c : Nat} : ∀ (n N : Nat) {M : gM} {x : sS}, p_I t a (d + 1) c M → r_X T t M x → n_s M - n_x M < n → n_s M - n_x M < N → Ok (F_X12_term_L9 n (some 175) M) (e_R T t (s_loop T 3 (s_val T) N x)) := by
  intro n
  induction n with
  | zero => intro N M x I X h hN; omega
  | succ n ih =>
    intro N M x I X h hN
    obtain ⟨N, rfl⟩ : ∃ N', N = N' + 1 := ⟨N - 1, by omega⟩
    show Ok (F_X12_term_b9 (F_X12_term_L9 n) (some 175) M) _
    have H := I.1.1.1
    have hx := I.2.1
    have s1 := n_s1 H
    obtain ⟨p, hp⟩ : ∃ p, p = n_sk M (n_x M) := ⟨_, rfl⟩
    have k1 := n_sk_le hx.2
    obtain ⟨I1, F1⟩ := p_see (S := p_E) I (by decide)
    obtain ⟨ex, X1⟩ := r_Xsee X H hx.2
    have px : p = x.1 := hp.trans ex
    rw [← hp] at I1 F1 k1
    rw [← px] at X1
    have H1 := I1.1.1.1
    have x1 : n_x (n_at M p) = p := n_at_x (by omega)
    have s2 : n_s (n_at M p) = n_s M := n_at_s
    have ec : n_c M p = n_c T p := congrFun (n_T X.1.1 X.1.2).2.2.1.2 p
    have go : ∀ {w : Int32} {m : Nat}, n_c M p = w → w.toInt = (m : Int) → (m = 42 ∨ m = 47 ∨ m = 37) → Ok (F_X12_term_b36 (F_X12_term_L9 n) (some 175) (n_at M p)) (e_R T t (s_loop T 3 (s_val T) (N + 1) x)) := by
      intro w m hw hm hm2
      have hlt := n_c_lt hw (by omega)
      rw [ec] at hw
      have kk := k_s1 (T := T) (p := p) hm (by omega) (by omega) (by omega) (by omega)
      have kb : n_b T p = w := ((n_ca_b B hm (by omega)).mp (k_sg hw hm (by omega) (by omega)).1.2).2
      have kd := kk.1.mp hw
      have b74 : ∀ {s : Int32}, ((s = 4 ∧ m = 42) ∨ (s = 5 ∧ m = 47) ∨ (s = 14 ∧ m = 37)) → Ok (F_X12_term_b74 (F_X12_term_L9 n) (some 175) s (n_at M p)) (e_R T t (s_loop T 3 (s_val T) (N + 1) x)) := fun hs => E_term_b74 (hs.imp (fun z => ⟨z.1, by rw [← px, kd, z.2]; rfl⟩) (Or.imp (fun z => ⟨z.1, by rw [← px, kd, z.2]; rfl⟩) (fun z => ⟨z.1, by rw [← px, kd, z.2]; rfl⟩))) (by rw [← px]; exact kk.2 hw) (fun I2 X2 a1 a2 => ih N I2 X2 (by omega) (by omega)) I1 X1 (by rw [x1]; exact px) (by omega)
      have x8 : ((n_at M p).2.1 175 8).toInt = (p : Int) := by
        rw [n_at8]
        exact i_ofNat (by omega)
      have vb : (n_at M p).2.1 176 p = w := by
        rw [← kb]
        exact (congrFun n_at_b p).trans (congrFun X.1.1 p)
      delta F_X12_term_b36
      rw [e_gR H1 (w := 176) rfl (by decide), Option.bind_some, e_gI H1, Option.bind_some, e_aI H1 (t := 22) (i := 176) (n := 400) rfl (by decide) (by omega) (by omega), Option.bind_some, i_cl x8, vb]
      have z42 : (42 : Int32).toInt = 42 := rfl
      have z47 : (47 : Int32).toInt = 47 := rfl
      refine Ok_i (fun e => b74 (Or.inl ⟨rfl, by rw [e] at hm; omega⟩)) (fun e => ?_)
      have e42 : m ≠ 42 := fun z => e (Int32.toInt_inj.mp (by omega))
      rw [Option.bind_some, Option.bind_some, e_aI H1 (t := 22) (i := 176) (n := 400) rfl (by decide) (by omega) (by omega), Option.bind_some, i_cl x8, vb]
      refine Ok_i (fun e => b74 (Or.inr (Or.inl ⟨rfl, by rw [e] at hm; omega⟩))) (fun e => b74 (Or.inr (Or.inr ⟨rfl, ?_⟩)))
      have e47 : m ≠ 47 := fun z => e (Int32.toInt_inj.mp (by omega))
      omega
    delta F_X12_term_b9
    rw [e_gO H, Option.bind_some, R_see H hx.2, ← hp, Option.bind_some]
    dsimp only
    refine Ok_i (fun e => go e rfl (Or.inl rfl)) (fun n1 => ?_)
    rw [e_gC H1, Option.bind_some, R_see2 H hx.2 hp, Option.bind_some]
    dsimp only
    refine Ok_i (fun e => go e rfl (Or.inr (Or.inl rfl))) (fun n2 => ?_)
    rw [e_gC H1, Option.bind_some, R_see2 H hx.2 hp, Option.bind_some]
    dsimp only
    refine Ok_i (fun e => go e rfl (Or.inr (Or.inr rfl))) (fun n3 => ?_)
    rw [ec] at n1 n2 n3
    have m1 := mt (k_s1 (T := T) (p := p) (c := (42 : Int32)) (n := 42) rfl (by omega) (by omega) (by omega) (by omega)).1.mpr n1
    have m2 := mt (k_s1 (T := T) (p := p) (c := (47 : Int32)) (n := 47) rfl (by omega) (by omega) (by omega) (by omega)).1.mpr n2
    have m3 := mt (k_s1 (T := T) (p := p) (c := (37 : Int32)) (n := 37) rfl (by omega) (by omega) (by omega) (by omega)).1.mpr n3
    show Ok _ (e_R T t (if s_jo 3 (k_kind T x.1) = 0 then _ else _))
    rw [if_pos (s_jo3 (by rw [← px]; exact m3) (by rw [← px]; exact m1) (by rw [← px]; exact m2))]
    exact Ok_s ⟨rfl, X1⟩
theorem E_term {T : gM} (B : z_B T) {t a d c : Nat} {M : gM} {x : sS} (I : p_I t a d c M) (X : r_X T t M x) : Ok (F_X12_term (some 175) M) (e_R T t (s_term T x)) := by
  have H := I.1.1.1
  delta F_X12_term F_X12_term_b0
  rw [e_gO H, Option.bind_some]
  show Ok _ (e_R T t (s_b (s_val T x) _))
  refine Ok_b (Ok_and (P_value I) (E_value I X)) (fun y z => ?_)
  obtain ⟨v2, M3⟩ := y
  obtain ⟨⟨⟨H3, F3⟩, P⟩, E⟩ := z
  dsimp only at P E H3 F3 ⊢
  generalize s_val T x = r at E ⊢
  cases r with
  | inl e =>
    obtain ⟨h3, g3⟩ := E
    dsimp only at h3 g3
    subst h3
    rw [if_pos rfl]
    exact Ok_s ⟨rfl, g3⟩
  | inr y =>
    obtain ⟨h3, X3⟩ := E
    dsimp only at h3 X3
    subst h3
    rcases P with ⟨h3, _⟩ | ⟨_, I3, x3⟩
    · exact absurd h3 (by decide)
    rw [if_neg (by decide)]
    have s3 := n_s1 H3
    exact E_term_L9 B _ _ I3 X3 (n_fu (by omega)) (by omega)
-- 73.ecmp
/-! the reference reads as the document says: SUMS and COMPARES -/
theorem E_sum_b46 {T : gM} (B : z_B T) {t a d c N : Nat} {s : Int32} {M : gM} {x : sS} {k : Option Nat → gM → Option (Int32 × gM)} (hs : (s = 2 ∧ k_kind T x.1 = 43) ∨ (s = 3 ∧ k_kind T x.1 = 45)) (hq : k_go T x.1 = n_sk T (x.1 + 1)) (hk : ∀ {M1 : gM} {y : sS}, p_I t a (d + 1) c M1 → r_X T t M1 y → n_x M < n_x M1 → n_s M1 = n_s M → Ok (k (some 175) M1) (e_R T t (s_loop T 2 (s_term T) N y))) (I : p_I t a (d + 1) c M) (X : r_X T t M x) (xx : n_x M = x.1) (hx : n_x M < n_s M) : Ok (F_X12_sum_b46 k (some 175) s M) (e_R T t (s_loop T 2 (s_term T) (N + 1) x)) := by
  have H := I.1.1.1
  have s1 := n_s1 H
  obtain ⟨e1, I1, F1, x1⟩ := p_next (S := p_E) I hx (by decide)
  have X1 := r_Xnext X xx (by omega) (by rw [xx]; exact hq)
  have j1 : ¬ s_jo 2 (k_kind T x.1) = 0 := by rcases hs with ⟨_, e⟩ | ⟨_, e⟩ <;> (rw [e]; decide)
  have j2 : s = e_r (s_jo 2 (k_kind T x.1), 0) := by rcases hs with ⟨e0, e⟩ | ⟨e0, e⟩ <;> (rw [e0, e]; decide)
  have hB : s = 2 ∨ s = 3 := hs.imp And.left And.left
  show Ok _ (e_R T t (if s_jo 2 (k_kind T x.1) = 0 then _ else _))
  rw [if_neg j1]
  delta F_X12_sum_b46
  rw [e_gI H, Option.bind_some, e_pI H, Option.bind_some, e1]
  generalize n_at M (n_x M + 1) = M1 at I1 F1 x1 X1 ⊢
  have H1 := I1.1.1.1
  rw [e_gO H1, Option.bind_some]
  refine Ok_b (Ok_and (P_term I1) (E_term B I1 X1)) (fun y z => ?_)
  obtain ⟨v4, M5⟩ := y
  obtain ⟨⟨⟨H5, F5⟩, P⟩, E⟩ := z
  dsimp only at P E H5 F5 ⊢
  generalize s_term T (k_go T x.1, x.2) = r at E ⊢
  cases r with
  | inl e =>
    obtain ⟨h5, g5⟩ := E
    dsimp only at h5 g5
    subst h5
    rw [if_pos rfl]
    exact Ok_s ⟨rfl, g5⟩
  | inr y =>
    obtain ⟨h5, X5⟩ := E
    dsimp only at h5 X5
    subst h5
    rcases P with ⟨h5, _⟩ | ⟨_, I5, x5⟩
    · exact absurd h5 (by decide)
    rw [if_neg (by decide), e_gC H5, Option.bind_some, R_puts H5 I5.1.1.2 I5.1.2 (by have := I5.2.1; have := n_s1 H5; omega), Option.bind_some]
    obtain ⟨I6, F6, x6⟩ := p_puts (S := p_E) (d2 := d + 1) I5 (y_stB (w := s) (by rcases hB with e | e <;> subst e <;> decide)) (by have := I5.2.2.2; omega) (by decide)
    have F := p_F_tr F1 (p_F_tr F5 F6)
    have X6 := r_Xput X5 H5 (by have := I5.2.1; have := n_s1 H5; omega) (w := s + (16 : Int32) * (0 : Int32)) (a := (s_jo 2 (k_kind T x.1), 0)) (by rw [← j2]; rcases hB with e | e <;> (subst e; rfl))
    exact hk I6 X6 (by omega) (n_Fs F (by decide))
theorem E_sum_L9 {T : gM} (B : z_B T) {t a d c : Nat} : ∀ (n N : Nat) {M : gM} {x : sS}, p_I t a (d + 1) c M → r_X T t M x → n_s M - n_x M < n → n_s M - n_x M < N → Ok (F_X12_sum_L9 n (some 175) M) (e_R T t (s_loop T 2 (s_term T) N x)) := by
  intro n
  induction n with
  | zero => intro N M x I X h hN; omega
  | succ n ih =>
    intro N M x I X h hN
    obtain ⟨N, rfl⟩ : ∃ N', N = N' + 1 := ⟨N - 1, by omega⟩
    show Ok (F_X12_sum_b9 (F_X12_sum_L9 n) (some 175) M) _
    have H := I.1.1.1
    have hx := I.2.1
    have s1 := n_s1 H
    obtain ⟨p, hp⟩ : ∃ p, p = n_sk M (n_x M) := ⟨_, rfl⟩
    have k1 := n_sk_le hx.2
    obtain ⟨I1, F1⟩ := p_see (S := p_E) I (by decide)
    obtain ⟨ex, X1⟩ := r_Xsee X H hx.2
    have px : p = x.1 := hp.trans ex
    rw [← hp] at I1 F1 k1
    rw [← px] at X1
    have H1 := I1.1.1.1
    have x1 : n_x (n_at M p) = p := n_at_x (by omega)
    have s2 : n_s (n_at M p) = n_s M := n_at_s
    have ec : n_c M p = n_c T p := congrFun (n_T X.1.1 X.1.2).2.2.1.2 p
    have go : ∀ {w : Int32} {m : Nat}, n_c M p = w → w.toInt = (m : Int) → (m = 43 ∨ m = 45) → Ok (F_X12_sum_b27 (F_X12_sum_L9 n) (some 175) (n_at M p)) (e_R T t (s_loop T 2 (s_term T) (N + 1) x)) := by
      intro w m hw hm hm2
      have hlt := n_c_lt hw (by omega)
      rw [ec] at hw
      have kk := k_s1 (T := T) (p := p) hm (by omega) (by omega) (by omega) (by omega)
      have kb : n_b T p = w := ((n_ca_b B hm (by omega)).mp (k_sg hw hm (by omega) (by omega)).1.2).2
      have kd := kk.1.mp hw
      have b74 : ∀ {s : Int32}, ((s = 2 ∧ m = 43) ∨ (s = 3 ∧ m = 45)) → Ok (F_X12_sum_b46 (F_X12_sum_L9 n) (some 175) s (n_at M p)) (e_R T t (s_loop T 2 (s_term T) (N + 1) x)) := fun hs => E_sum_b46 B (hs.imp (fun z => ⟨z.1, by rw [← px, kd, z.2]; rfl⟩) (fun z => ⟨z.1, by rw [← px, kd, z.2]; rfl⟩)) (by rw [← px]; exact kk.2 hw) (fun I2 X2 a1 a2 => ih N I2 X2 (by omega) (by omega)) I1 X1 (by rw [x1]; exact px) (by omega)
      have x8 : ((n_at M p).2.1 175 8).toInt = (p : Int) := by
        rw [n_at8]
        exact i_ofNat (by omega)
      have vb : (n_at M p).2.1 176 p = w := by
        rw [← kb]
        exact (congrFun n_at_b p).trans (congrFun X.1.1 p)
      delta F_X12_sum_b27
      rw [e_gR H1 (w := 176) rfl (by decide), Option.bind_some, e_gI H1, Option.bind_some, e_aI H1 (t := 22) (i := 176) (n := 400) rfl (by decide) (by omega) (by omega), Option.bind_some, i_cl x8, vb]
      have z42 : (43 : Int32).toInt = 43 := rfl
      refine Ok_i (fun e => b74 (Or.inl ⟨rfl, by rw [e] at hm; omega⟩)) (fun e => b74 (Or.inr ⟨rfl, ?_⟩))
      have e42 : m ≠ 43 := fun z => e (Int32.toInt_inj.mp (by omega))
      omega
    delta F_X12_sum_b9
    rw [e_gO H, Option.bind_some, R_see H hx.2, ← hp, Option.bind_some]
    dsimp only
    refine Ok_i (fun e => go e rfl (Or.inl rfl)) (fun n1 => ?_)
    rw [e_gC H1, Option.bind_some, R_see2 H hx.2 hp, Option.bind_some]
    dsimp only
    refine Ok_i (fun e => go e rfl (Or.inr rfl)) (fun n2 => ?_)
    rw [ec] at n1 n2
    have m1 := mt (k_s1 (T := T) (p := p) (c := (43 : Int32)) (n := 43) rfl (by omega) (by omega) (by omega) (by omega)).1.mpr n1
    have m2 := mt (k_s1 (T := T) (p := p) (c := (45 : Int32)) (n := 45) rfl (by omega) (by omega) (by omega) (by omega)).1.mpr n2
    show Ok _ (e_R T t (if s_jo 2 (k_kind T x.1) = 0 then _ else _))
    rw [if_pos (s_jo2 (by rw [← px]; exact m1) (by rw [← px]; exact m2))]
    exact Ok_s ⟨rfl, X1⟩
theorem E_sum {T : gM} (B : z_B T) {t a d c : Nat} {M : gM} {x : sS} (I : p_I t a d c M) (X : r_X T t M x) : Ok (F_X12_sum (some 175) M) (e_R T t (s_sum T x)) := by
  have H := I.1.1.1
  delta F_X12_sum F_X12_sum_b0
  rw [e_gO H, Option.bind_some]
  show Ok _ (e_R T t (s_b (s_term T x) _))
  refine Ok_b (Ok_and (P_term I) (E_term B I X)) (fun y z => ?_)
  obtain ⟨v2, M3⟩ := y
  obtain ⟨⟨⟨H3, F3⟩, P⟩, E⟩ := z
  dsimp only at P E H3 F3 ⊢
  generalize s_term T x = r at E ⊢
  cases r with
  | inl e =>
    obtain ⟨h3, g3⟩ := E
    dsimp only at h3 g3
    subst h3
    rw [if_pos rfl]
    exact Ok_s ⟨rfl, g3⟩
  | inr y =>
    obtain ⟨h3, X3⟩ := E
    dsimp only at h3 X3
    subst h3
    rcases P with ⟨h3, _⟩ | ⟨_, I3, x3⟩
    · exact absurd h3 (by decide)
    rw [if_neg (by decide)]
    have s3 := n_s1 H3
    exact E_sum_L9 B _ _ I3 X3 (n_fu (by omega)) (by omega)
theorem E_cmp_b152 {T : gM} (B : z_B T) {t a d c : Nat} {s : Int32} {M : gM} {y : sS} {m : Nat} (hs : (s = 0 ∧ m = 7) ∨ (s = 1 ∧ m = 8) ∨ (s = 2 ∧ m = 9) ∨ (s = 3 ∧ m = 10) ∨ (s = 4 ∧ m = 11)) (I : p_I t a (d + 1) (c + 1) M) (X : r_X T t M y) : Ok (F_X12_compare_b152 (some 175) s M) (e_R T t (s_b (s_sum T y) (fun z => .inr (s_push z (m, 0))))) := by
  have H := I.1.1.1
  have e6 : (6 : Int32) + s + (16 : Int32) * (0 : Int32) = e_r (m, 0) := by rcases hs with ⟨e0, e⟩ | ⟨e0, e⟩ | ⟨e0, e⟩ | ⟨e0, e⟩ | ⟨e0, e⟩ <;> (rw [e, e0]; decide)
  delta F_X12_compare_b152
  rw [e_gO H, Option.bind_some]
  refine Ok_b (Ok_and (P_sum I) (E_sum B I X)) (fun y2 z => ?_)
  obtain ⟨v2, M3⟩ := y2
  obtain ⟨⟨⟨H3, F3⟩, P⟩, E⟩ := z
  dsimp only at P E H3 F3 ⊢
  generalize s_sum T y = r at E ⊢
  cases r with
  | inl e =>
    obtain ⟨h3, g3⟩ := E
    dsimp only at h3 g3
    subst h3
    rw [if_pos rfl]
    exact Ok_s ⟨rfl, g3⟩
  | inr y =>
    obtain ⟨h3, X3⟩ := E
    dsimp only at h3 X3
    subst h3
    rcases P with ⟨h3, _⟩ | ⟨_, I3, x3⟩
    · exact absurd h3 (by decide)
    rw [if_neg (by decide), e_gC H3, Option.bind_some, R_puts H3 I3.1.1.2 I3.1.2 (by have := I3.2.1; have := n_s1 H3; omega), Option.bind_some]
    exact Ok_s ⟨rfl, r_Xput X3 H3 (by have := I3.2.1; have := n_s1 H3; omega) e6⟩
/-- which COMPARE: of the sign and whether a = stands behind -/
def e_co (l1 l3 : Int32) : Nat := if l1 = 60 then (if l3 = 0 then 7 else 8) else if l1 = 61 then 9 else if l3 = 0 then 11 else 10
theorem E_cmp_b105 {T : gM} (B : z_B T) {t a d c q : Nat} {l1 l2 l3 : Int32} {M : gM} {y : sS} (hl : l2.toInt = (q : Int)) (hq : q ≤ 400) (I : p_I t a (d + 1) (c + 1) M) (X : r_X T t M y) : Ok (F_X12_compare_b105 (some 175) l1 l2 l3 M) (e_R T t (if y.2.1 = 60 then .inl (1 + 8 * q + 3) else s_b (s_sum T (y.1, y.2.1 + 1, y.2.2)) (fun z => .inr (s_push z (e_co l1 l3, 0))))) := by
  have H := I.1.1.1
  have em : n_m M = y.2.1 := X.2.2.1.2
  delta F_X12_compare_b105
  rw [e_gO H, Option.bind_some, R_makes H, Option.bind_some]
  by_cases cM : y.2.1 = 60
  · rw [if_pos (show n_m M = 60 from em.trans cM), if_pos cM]
    dsimp only
    rw [if_pos rfl]
    exact Ok_s ⟨rfl, n_f_0 X.2.2.1.1 hl hq rfl (by decide)⟩
  · have cM' : ¬ n_m M = 60 := by rw [em]; exact cM
    rw [if_neg cM', if_neg cM]
    dsimp only
    rw [if_neg (by decide)]
    obtain ⟨⟨H3, f3⟩, m3⟩ := n_mk_set H cM'
    have X3 := r_Xmk X H cM'
    have x3 := n_fx f3 (by decide)
    have I3 : p_I t a (d + 1) (c + 1) (n_mk M) := p_I_of I H3 f3 (by decide) ⟨by rw [x3]; exact I.2.1.1, by rw [x3]; exact I.2.1.2⟩ (by omega)
    unfold e_co
    by_cases c1 : l1 = 60
    · rw [if_pos c1, if_pos c1]
      by_cases c3 : l3 = 0
      · rw [if_pos c3, if_pos c3]
        exact E_cmp_b152 B (Or.inl ⟨rfl, rfl⟩) I3 X3
      · rw [if_neg c3, if_neg c3]
        exact E_cmp_b152 B (Or.inr (Or.inl ⟨rfl, rfl⟩)) I3 X3
    · rw [if_neg c1, if_neg c1]
      by_cases c2 : l1 = 61
      · rw [if_pos c2, if_pos c2]
        exact E_cmp_b152 B (Or.inr (Or.inr (Or.inl ⟨rfl, rfl⟩))) I3 X3
      · rw [if_neg c2, if_neg c2]
        by_cases c3 : l3 = 0
        · rw [if_pos c3, if_pos c3]
          exact E_cmp_b152 B (Or.inr (Or.inr (Or.inr (Or.inr ⟨rfl, rfl⟩)))) I3 X3
        · rw [if_neg c3, if_neg c3]
          exact E_cmp_b152 B (Or.inr (Or.inr (Or.inr (Or.inl ⟨rfl, rfl⟩)))) I3 X3
/-- which sign of COMPARE stands there -/
theorem k_cmp {T : gM} (B : z_B T) {p m : Nat} {w : Int32} (hw : n_c T p = w) (hm : w.toInt = (m : Int)) (hm2 : m = 60 ∨ m = 61 ∨ m = 62) : ((w ≠ 61 ∧ p + 1 < n_s T ∧ n_b T (p + 1) = 61) → s_co (k_kind T p) = e_co w 1 ∧ k_go T p = n_sk T (p + 2)) ∧ (¬ (w ≠ 61 ∧ p + 1 < n_s T ∧ n_b T (p + 1) = 61) → s_co (k_kind T p) = e_co w 0 ∧ k_go T p = n_sk T (p + 1)) := by
  obtain ⟨⟨a1, a2⟩, a3, a4⟩ := k_sg hw hm (by omega) (by omega)
  have z61 : (61 : Int32).toInt = 61 := rfl
  have z60 : (60 : Int32).toInt = 60 := rfl
  have z62 : (62 : Int32).toInt = 62 := rfl
  have hw3 : w = 60 ∨ w = 61 ∨ w = 62 := by
    rcases hm2 with e | e | e
    · exact Or.inl (Int32.toInt_inj.mp (by omega))
    · exact Or.inr (Or.inl (Int32.toInt_inj.mp (by omega)))
    · exact Or.inr (Or.inr (Int32.toInt_inj.mp (by omega)))
  have two : k_two T p = true ↔ (w ≠ 61 ∧ p + 1 < n_s T ∧ n_b T (p + 1) = 61) := by
    unfold k_two
    rw [decide_eq_true_iff, a2, n_ca_b B (q := p + 1) (n := 61) rfl (by omega)]
    refine and_congr ?_ Iff.rfl
    rcases hw3 with e | e | e <;> (rw [e]; decide)
  have kk : k_kind T p = (if k_two T p = true then (if w = 60 then 258 else 259) else w.toInt) := by
    unfold k_kind
    rw [if_neg (by omega), if_neg a3, if_neg a4, a2]
  have gg : k_go T p = n_sk T (if k_two T p = true then p + 2 else p + 1) := by
    unfold k_go k_nx k_end
    rw [if_pos a1, if_neg a3, if_neg a4]
  refine ⟨fun h => ?_, fun h => ?_⟩
  · have h2 := two.mpr h
    rw [kk, gg, if_pos h2, if_pos h2]
    refine ⟨?_, rfl⟩
    rcases hw3 with e | e | e
    · rw [e]; rfl
    · exact absurd e h.1
    · rw [e]; rfl
  · have h2 := mt two.mp h
    rw [kk, gg, if_neg h2, if_neg h2]
    refine ⟨?_, rfl⟩
    rcases hw3 with e | e | e <;> (rw [e]; rfl)
theorem k_ncmp {T : gM} {p : Nat} (B : z_B T) (h1 : n_c T p ≠ 60) (h2 : n_c T p ≠ 61) (h3 : n_c T p ≠ 62) : s_co (k_kind T p) = 0 := by
  unfold k_kind
  by_cases c0 : n_s T ≤ p
  · rw [if_pos c0]; rfl
  rw [if_neg c0]
  by_cases cL : n_L T p = true
  · rw [if_pos cL]
    have := k_w_r (T := T) (p := p)
    unfold s_co
    rw [if_neg (by omega), if_neg (by omega), if_neg (by omega), if_neg (by omega), if_neg (by omega)]
  rw [if_neg cL]
  by_cases cD : n_D T p = true
  · rw [if_pos cD]; rfl
  rw [if_neg cD]
  have e : n_ca T p = n_c T p := by
    unfold n_ca n_c
    rw [if_pos (show p < n_s T by omega), if_pos (show p < n_s T by omega)]
  by_cases c2 : k_two T p = true
  · have := (of_decide_eq_true c2).1
    rw [e] at this
    rcases this with z | z
    · exact absurd z h1
    · exact absurd z h3
  rw [if_neg c2, e]
  have r1 := n_ca_r B (q := p) (by omega)
  rw [e] at r1
  have b1 := B.1 p
  have q1 : (n_c T p).toInt ≠ 60 := fun z => h1 (Int32.toInt_inj.mp z)
  have q2 : (n_c T p).toInt ≠ 61 := fun z => h2 (Int32.toInt_inj.mp z)
  have q3 : (n_c T p).toInt ≠ 62 := fun z => h3 (Int32.toInt_inj.mp z)
  have q4 : (n_c T p).toInt ≤ 255 := by
    rw [r1]
    split <;> omega
  unfold s_co
  rw [if_neg q1, if_neg q2, if_neg q3, if_neg (by omega), if_neg (by omega)]
theorem e_co_n {w l : Int32} : e_co w l ≠ 0 := by
  unfold e_co
  split
  · split <;> decide
  · split
    · decide
    · split <;> decide
theorem E_cmp_b44 {T : gM} (B : z_B T) {t a d c m : Nat} {l1 l2 : Int32} {M : gM} {y : sS} (hw : n_c T y.1 = l1) (hm : l1.toInt = (m : Int)) (hm2 : m = 60 ∨ m = 61 ∨ m = 62) (hl : l2.toInt = (n_x M : Int)) (hlt : n_x M < n_s M) (I : p_I t a (d + 1) c M) (X : r_X T t M y) (xx : n_x M = y.1) : Ok (F_X12_compare_b44 (some 175) l1 l2 M) (e_R T t (s_cmp2 T y)) := by
  have H := I.1.1.1
  have s1 := n_s1 H
  obtain ⟨e1, I1, F1, x1⟩ := p_next (S := p_E) I hlt (by decide)
  have es : n_s (n_at M (n_x M + 1)) = n_s M := n_at_s
  have kc := k_cmp B hw hm hm2
  have sT : n_s M = n_s T := X.1.2
  have X0 : k_go T y.1 = n_sk T (y.1 + 1) → r_X T t (n_at M (n_x M + 1)) (k_go T y.1, y.2) := fun h => r_Xnext X xx (by omega) (by rw [xx]; exact h)
  have b1 : (n_at M (n_x M + 1)).2.1 176 (n_x M + 1) = n_b T (y.1 + 1) := by
    rw [← xx]
    exact (congrFun n_at_b _).trans (congrFun X.1.1 _)
  have fin : ∀ {l3 : Int32} {k : Nat} {M1 : gM}, s_co (k_kind T y.1) = e_co l1 l3 → p_I t a (d + 1) (c + 1) M1 → r_X T t M1 (k_go T y.1, y.2) → Ok (F_X12_compare_b105 (some 175) l1 l2 l3 M1) (e_R T t (s_cmp2 T y)) := by
    intro l3 k M1 h1 I1 X1
    have := E_cmp_b105 (l1 := l1) (l3 := l3) B hl (by omega) I1 X1
    unfold s_cmp2
    rw [if_neg (by rw [h1]; exact e_co_n), h1, ← xx]
    rw [← xx] at this
    exact this
  delta F_X12_compare_b44 F_X12_compare_b89 F_X12_compare_b90
  rw [e_gI H, Option.bind_some, e_pI H, Option.bind_some, e1]
  have xr : (n_at M (n_x M + 1)).2.1 175 8 = Int32.ofNat (n_x M + 1) := n_at8
  have xi : (Int32.ofNat (n_x M + 1)).toInt = ((n_x M + 1 : Nat) : Int) := i_ofNat (by omega)
  have X2 : n_x M + 2 ≤ 400 → k_go T y.1 = n_sk T (y.1 + 2) → r_X T t (n_at (n_at M (n_x M + 1)) (n_x (n_at M (n_x M + 1)) + 1)) (k_go T y.1, y.2) := by
    intro h0 h
    rw [x1, n_at_at]
    exact r_Xat X (by omega) (by rw [xx]; exact h.symm)
  generalize n_at M (n_x M + 1) = M1 at I1 F1 x1 es X0 X2 b1 xr ⊢
  have H1 := I1.1.1.1
  have s2 := n_s1 H1
  have y1 := n_x1 H1
  by_cases c1 : l1 = 61
  · rw [if_pos c1, if_pos rfl]
    have k2 := kc.2 (fun z => z.1 c1)
    exact fin (k := 0) k2.1 I1 (X0 k2.2)
  rw [if_neg c1, e_gI H1, Option.bind_some, e_gI H1, Option.bind_some]
  refine Ok_i (fun c2 => ?_) (fun c2 => ?_)
  · rw [if_pos rfl]
    have := i_le c2
    have k2 := kc.2 (fun z => by omega)
    exact fin (k := 0) k2.1 I1 (X0 k2.2)
  have c2' := i_nle c2
  rw [e_gR H1 (w := 176) rfl (by decide), Option.bind_some, Option.bind_some, e_aI H1 (t := 22) (i := 176) (n := 400) rfl (by decide) (by omega) (by omega), Option.bind_some, xr, i_cl xi, b1]
  refine Ok_i (fun c3 => ?_) (fun c3 => ?_)
  · have k2 := kc.1 ⟨c1, by omega, c3⟩
    obtain ⟨e2, I2, F2, x2⟩ := p_next (S := p_E) I1 (by omega) (by decide)
    rw [xr] at e2
    rw [if_neg (by decide), Option.bind_some, e_pI H1, Option.bind_some, e2]
    refine fin (k := 0) k2.1 (p_I_of I2 I2.1.1.1 (y_rf0 0 _) (by decide) ⟨?_, I2.2.1.2⟩ (Nat.le_refl _)) (X2 (by omega) k2.2)
    have := I2.2.1.1
    omega
  · rw [if_pos rfl]
    have k2 := kc.2 (fun z => c3 z.2.2)
    exact fin (k := 0) k2.1 I1 (X0 k2.2)
theorem E_cmp {T : gM} (B : z_B T) {t a d c : Nat} {M : gM} {x : sS} (I : p_I t a d c M) (X : r_X T t M x) : Ok (F_X12_compare (some 175) M) (e_R T t (s_cmp T x)) := by
  have H := I.1.1.1
  delta F_X12_compare F_X12_compare_b0
  rw [e_gO H, Option.bind_some]
  show Ok _ (e_R T t (s_b (s_sum T x) (s_cmp2 T)))
  refine Ok_b (Ok_and (P_sum I) (E_sum B I X)) (fun y z => ?_)
  obtain ⟨v2, M3⟩ := y
  obtain ⟨⟨⟨H3, F3⟩, P⟩, E⟩ := z
  dsimp only at P E H3 F3 ⊢
  generalize s_sum T x = r at E ⊢
  cases r with
  | inl e =>
    obtain ⟨h3, g3⟩ := E
    dsimp only at h3 g3
    subst h3
    rw [if_pos rfl]
    exact Ok_s ⟨rfl, g3⟩
  | inr y =>
  obtain ⟨h3, X3⟩ := E
  dsimp only at h3 X3
  subst h3
  rcases P with ⟨h3, _⟩ | ⟨_, I3, x3⟩
  · exact absurd h3 (by decide)
  have s3 := n_s1 H3
  have hx := I3.2.1
  obtain ⟨p, hp⟩ : ∃ p, p = n_sk M3 (n_x M3) := ⟨_, rfl⟩
  have k1 := n_sk_le hx.2
  obtain ⟨I6, F6⟩ := p_see (S := p_E) I3 (by decide)
  obtain ⟨ex, X6⟩ := r_Xsee X3 H3 hx.2
  have px : p = y.1 := hp.trans ex
  rw [← hp] at I6 F6 k1
  rw [← px] at X6
  have H6 := I6.1.1.1
  have x6 : n_x (n_at M3 p) = p := n_at_x (by omega)
  have s6 : n_s (n_at M3 p) = n_s M3 := n_at_s
  have v7 : (n_at M3 p).2.1 175 8 = Int32.ofNat p := n_at8
  have xi : (Int32.ofNat p).toInt = (p : Int) := i_ofNat (by omega)
  have ec : n_c M3 p = n_c T p := congrFun (n_T X3.1.1 X3.1.2).2.2.1.2 p
  rw [if_neg (by decide), e_gC H3, Option.bind_some, R_see H3 hx.2, ← hp, Option.bind_some]
  dsimp only
  rw [e_gI H6, Option.bind_some, v7]
  have go : ∀ {w : Int32} {m : Nat}, n_c M3 p = w → w.toInt = (m : Int) → (m = 60 ∨ m = 61 ∨ m = 62) → Ok (F_X12_compare_b44 (some 175) (n_c M3 p) (Int32.ofNat p) (n_at M3 p)) (e_R T t (s_cmp2 T y)) := by
    intro w m hw hm hm2
    have hlt := n_c_lt hw (by omega)
    exact E_cmp_b44 B (by rw [← px]; exact ec.symm) (by rw [hw]; exact hm) hm2 (by rw [x6]; exact xi) (by omega) I6 X6 (by rw [x6]; exact px)
  refine Ok_i (fun e => go e rfl (Or.inl rfl)) (fun n1 => Ok_i (fun e => go e rfl (Or.inr (Or.inl rfl))) (fun n2 => Ok_i (fun e => go e rfl (Or.inr (Or.inr rfl))) (fun n3 => ?_)))
  rw [ec] at n1 n2 n3
  rw [e_gC H6, Option.bind_some, R_fails H6, Option.bind_some]
  dsimp only
  rw [if_pos (Or.inl rfl)]
  have k0 : s_co (k_kind T y.1) = 0 := by rw [← px]; exact k_ncmp B n1 n2 n3
  show Ok _ (e_R T t (s_cmp2 T y))
  unfold s_cmp2
  rw [if_pos k0, ← px]
  exact Ok_s ⟨rfl, n_f_0 X6.2.2.1.1 xi (by omega) rfl (by decide)⟩
-- 74.tpure
/-! TESTS: what still waits, and what becomes of the reading -/
theorem s_b_a {r : s_R} {f g : sS → s_R} : s_b (s_b r f) g = s_b r (fun y => s_b (f y) g) := by
  cases r <;> rfl
theorem s_b_r {r : s_R} : s_b r .inr = r := by
  cases r <;> rfl
def s_mo (f : sS → s_R) : Prop := ∀ x y, f x = .inr y → x.1 ≤ y.1
theorem s_mo_b {r : s_R} {f : sS → s_R} {p : Nat} (h1 : ∀ z, r = .inr z → p ≤ z.1) (h2 : ∀ z y, p ≤ z.1 → f z = .inr y → p ≤ y.1) {y : sS} (h : s_b r f = .inr y) : p ≤ y.1 := by
  cases r with
  | inl e => cases h
  | inr z => exact h2 z y (h1 z rfl) h
theorem s_jo_lt {what : Nat} {T : gM} {p : Nat} (h : ¬ s_jo what (k_kind T p) = 0) : p < n_s T := by
  refine k_kind_lt (fun e => h ?_)
  rw [e]
  rfl
theorem s_loop_mo {T : gM} {what : Nat} {item : sS → s_R} (m : s_mo item) : ∀ (n : Nat), s_mo (s_loop T what item n) := by
  intro n
  induction n with
  | zero => intro x y h; cases h; exact Nat.le_refl _
  | succ n ih =>
    intro x y h
    have h : (if s_jo what (k_kind T x.1) = 0 then .inr x else s_b (item (k_go T x.1, x.2)) (fun y => s_loop T what item n (s_push y (s_jo what (k_kind T x.1), 0)))) = (.inr y : s_R) := h
    by_cases c : s_jo what (k_kind T x.1) = 0
    · rw [if_pos c] at h
      cases h
      exact Nat.le_refl _
    · rw [if_neg c] at h
      have g : x.1 ≤ k_go T x.1 := k_go_le
      exact s_mo_b (p := x.1) (f := fun y => s_loop T what item n (s_push y (s_jo what (k_kind T x.1), 0))) (fun z hz => Nat.le_trans g (m _ _ hz)) (fun z y2 hz hy => Nat.le_trans hz (ih (s_push z (s_jo what (k_kind T x.1), 0)) _ hy)) h
theorem s_join_mo {T : gM} {what : Nat} {item : sS → s_R} (m : s_mo item) : s_mo (s_join T what item) := by
  intro x y h
  exact s_mo_b (p := x.1) (fun z hz => m _ _ hz) (fun z y2 hz hy => Nat.le_trans hz (s_loop_mo m _ _ _ hy)) h
theorem s_val_mo {T : gM} : s_mo (s_val T) := by
  intro x y h
  have g : x.1 ≤ k_go T x.1 := k_go_le
  unfold s_val at h
  split at h
  · split at h
    · split at h
      · cases h
      · cases h; exact g
    · cases h
  · split at h
    · split at h
      · cases h
      · cases h; exact g
    · cases h
theorem s_sum_mo {T : gM} : s_mo (s_sum T) := s_join_mo (s_join_mo s_val_mo)
theorem s_cmp_mo {T : gM} : s_mo (s_cmp T) := by
  intro x y h
  refine s_mo_b (p := x.1) (fun z hz => s_sum_mo _ _ hz) (fun z y2 hz hy => ?_) h
  unfold s_cmp2 at hy
  split at hy
  · cases hy
  · split at hy
    · cases hy
    · have g : z.1 ≤ k_go T z.1 := k_go_le
      exact s_mo_b (p := x.1) (fun z2 hz2 => Nat.le_trans hz (Nat.le_trans g (s_sum_mo _ _ hz2))) (fun z2 y3 hz2 hy3 => by cases hy3; exact hz2) hy
theorem s_fact_mo {T : gM} : ∀ (n d : Nat), s_mo (s_fact T n d) := by
  intro n
  induction n with
  | zero => intro d x y h; cases h
  | succ n ih =>
    intro d x y h
    have g : x.1 ≤ k_go T x.1 := k_go_le
    unfold s_fact at h
    split at h
    · split at h
      · cases h
      · refine s_mo_b (p := x.1) (fun z hz => Nat.le_trans g (s_join_mo (s_join_mo (ih (d + 1))) _ _ hz)) (fun z y2 hz hy => ?_) h
        unfold s_close at hy
        split at hy
        · cases hy
          exact Nat.le_trans hz k_go_le
        · cases hy
    · split at h
      · split at h
        · cases h
        · exact s_mo_b (p := x.1) (fun z hz => Nat.le_trans g (ih _ _ _ hz)) (fun z y2 hz hy => by cases hy; exact hz) h
      · exact s_cmp_mo _ _ h
theorem s_F_mo {T : gM} {d : Nat} : s_mo (s_F T d) := s_fact_mo _ _
theorem s_loop_end {T : gM} {what : Nat} {item : sS → s_R} {n : Nat} {x : sS} (h : s_jo what (k_kind T x.1) = 0) : s_loop T what item n x = .inr x := by
  cases n with
  | zero => rfl
  | succ n =>
    show (if s_jo what (k_kind T x.1) = 0 then _ else _) = _
    rw [if_pos h]
/-- enough is enough -/
theorem s_loop_n {T : gM} {what : Nat} {item : sS → s_R} (m : s_mo item) : ∀ (n n2 : Nat) (x : sS), n_s T - x.1 ≤ n → n_s T - x.1 ≤ n2 → s_loop T what item n x = s_loop T what item n2 x := by
  intro n
  induction n with
  | zero =>
    intro n2 x h1 h2
    have c : s_jo what (k_kind T x.1) = 0 := by
      by_cases c : s_jo what (k_kind T x.1) = 0
      · exact c
      · have := s_jo_lt c
        omega
    rw [s_loop_end c, s_loop_end c]
  | succ n ih =>
    intro n2 x h1 h2
    by_cases c : s_jo what (k_kind T x.1) = 0
    · rw [s_loop_end c, s_loop_end c]
    · have lt := s_jo_lt c
      obtain ⟨n2, rfl⟩ : ∃ n', n2 = n' + 1 := ⟨n2 - 1, by omega⟩
      show (if s_jo what (k_kind T x.1) = 0 then _ else _) = (if s_jo what (k_kind T x.1) = 0 then _ else _)
      rw [if_neg c, if_neg c]
      have g := (k_go_r lt).1
      cases e : item (k_go T x.1, x.2) with
      | inl _ => rfl
      | inr y =>
        have g2 : k_go T x.1 ≤ y.1 := m _ _ e
        refine ih n2 _ ?_ ?_
        · show n_s T - y.1 ≤ n
          omega
        · show n_s T - y.1 ≤ n2
          omega
theorem s_loop_S {T : gM} {what : Nat} {item : sS → s_R} {n : Nat} {x : sS} : s_loop T what item (n + 1) x = (if s_jo what (k_kind T x.1) = 0 then .inr x else s_b (item (k_go T x.1, x.2)) (fun y => s_loop T what item n (s_push y (s_jo what (k_kind T x.1), 0)))) := rfl
theorem s_loop_gn {T : gM} {what : Nat} {item : sS → s_R} (m : s_mo item) {x : sS} {n : Nat} (h : n_s T ≤ n) (c : ¬ s_jo what (k_kind T x.1) = 0) : s_loop T what item n x = s_b (item (k_go T x.1, x.2)) (fun y => s_loop T what item n (s_push y (s_jo what (k_kind T x.1), 0))) := (s_loop_n m n (n + 1) x (by omega) (by omega)).trans (s_loop_S.trans (if_neg c))
theorem s_loop_go {T : gM} (B : z_B T) {what : Nat} {item : sS → s_R} (m : s_mo item) {x : sS} (c : ¬ s_jo what (k_kind T x.1) = 0) : s_loop T what item 402 x = s_b (item (k_go T x.1, x.2)) (fun y => s_loop T what item 402 (s_push y (s_jo what (k_kind T x.1), 0))) := s_loop_gn m (Nat.le_trans B.2 (by decide)) c
-- 75.tstack
/-! TESTS: what waits -/
/-! what waits: brackets 91, NOT 11, AND 12, OR 13, the newest first -/
def t_dp : List Int32 → Nat
  | [] => 0
  | w :: σ => t_dp σ + (if w = 91 ∨ w = 11 then 1 else 0)
def t_top : List Int32 → Int32
  | [] => 0
  | w :: _ => n_st w
def t_wf : List Int32 → Prop
  | [] => True
  | w :: σ => (w = 91 ∨ w = 11 ∨ ((w = 12 ∨ w = 13) ∧ t_top σ < n_st w)) ∧ t_wf σ
def t_1 (T : gM) (d : Nat) (y : sS) : s_R := s_loop T 1 (s_F T d) 402 y
def t_0 (T : gM) (d : Nat) (y : sS) : s_R := s_loop T 0 (s_join T 1 (s_F T d)) 402 y
theorem t_1_d {T : gM} {d : Nat} : s_loop T 1 (s_F T d) 402 = t_1 T d := rfl
theorem t_0_d {T : gM} {d : Nat} : s_loop T 0 (s_join T 1 (s_F T d)) 402 = t_0 T d := rfl
theorem t_j1 {T : gM} {d : Nat} {x : sS} : s_join T 1 (s_F T d) x = s_b (s_F T d x) (t_1 T d) := rfl
theorem t_j0 {T : gM} {d : Nat} {x : sS} : s_J T 0 d x = s_b (s_b (s_F T d x) (t_1 T d)) (t_0 T d) := rfl
theorem t_jo1 {k : Int} (h : k ≠ 281) : s_jo 1 k = 0 := by
  unfold s_jo
  simp [h]
theorem t_jo0 {k : Int} (h : k ≠ 282) : s_jo 0 k = 0 := by
  unfold s_jo
  simp [h]
theorem t_1_end {T : gM} {d : Nat} {y : sS} (k : k_kind T y.1 ≠ 281) : t_1 T d y = .inr y := s_loop_end (t_jo1 k)
theorem t_0_end {T : gM} {d : Nat} {y : sS} (k : k_kind T y.1 ≠ 282) : t_0 T d y = .inr y := s_loop_end (t_jo0 k)
theorem t_1_go {T : gM} (B : z_B T) {d : Nat} {y : sS} (k : k_kind T y.1 = 281) : t_1 T d y = s_b (s_F T d (k_go T y.1, y.2)) (fun z => t_1 T d (s_push z (12, 0))) := by
  have j2 : s_jo 1 (k_kind T y.1) = 12 := by rw [k]; rfl
  rw [← t_1_d, s_loop_go B s_F_mo (by rw [j2]; decide), j2]
theorem t_0_go {T : gM} (B : z_B T) {d : Nat} {y : sS} (k : k_kind T y.1 = 282) : t_0 T d y = s_b (s_F T d (k_go T y.1, y.2)) (fun z => s_b (t_1 T d z) (fun z => t_0 T d (s_push z (13, 0)))) := by
  have j2 : s_jo 0 (k_kind T y.1) = 13 := by rw [k]; rfl
  rw [← t_0_d, s_loop_go B (s_join_mo s_F_mo) (by rw [j2]; decide), j2, t_j1, s_b_a]
/-- the rest of the TEST: behind a FACT; with true, behind a PART -/
def t_K (T : gM) : List Int32 → Bool → sS → s_R
  | [], b, y => if b = true then t_0 T 0 y else s_b (t_1 T 0 y) (t_0 T 0)
  | w :: σ, b, y =>
    if w = 91 then (if b = true then s_b (t_0 T (t_dp σ + 1) y) (fun z => s_b (s_close T z) (t_K T σ false)) else s_b (t_1 T (t_dp σ + 1) y) (fun y => s_b (t_0 T (t_dp σ + 1) y) (fun z => s_b (s_close T z) (t_K T σ false))))
    else if w = 11 then t_K T σ false (s_push y (14, 0))
    else if w = 12 then t_K T σ false (s_push y (12, 0))
    else if b = true then t_K T σ true (s_push y (13, 0)) else s_b (t_1 T (t_dp σ) y) (fun z => t_K T σ true (s_push z (13, 0)))
def t_op (w : Int32) : Nat := if w = 11 then 14 else if w = 12 then 12 else 13
def t_sv (least : Int32) : List Int32 → sS → List Int32 × sS
  | [], y => ([], y)
  | w :: σ, y => if n_st w < least then (w :: σ, y) else t_sv least σ (s_push y (t_op w, 0))
-- 76.tk
/-! TESTS: the rest, sign by sign -/
theorem t_K_n0 {T : gM} {y : sS} : t_K T [] false y = s_b (t_1 T 0 y) (t_0 T 0) := by
  show (if false = true then _ else _) = _
  rw [if_neg (by decide)]
theorem t_K_n1 {T : gM} {y : sS} : t_K T [] true y = t_0 T 0 y := by
  show (if true = true then _ else _) = _
  rw [if_pos rfl]
theorem t_K_b0 {T : gM} {σ : List Int32} {y : sS} : t_K T (91 :: σ) false y = s_b (t_1 T (t_dp σ + 1) y) (fun y => s_b (t_0 T (t_dp σ + 1) y) (fun z => s_b (s_close T z) (t_K T σ false))) := by
  show (if (91 : Int32) = 91 then (if false = true then _ else _) else _) = _
  rw [if_pos rfl, if_neg (by decide)]
theorem t_K_b1 {T : gM} {σ : List Int32} {y : sS} : t_K T (91 :: σ) true y = s_b (t_0 T (t_dp σ + 1) y) (fun z => s_b (s_close T z) (t_K T σ false)) := by
  show (if (91 : Int32) = 91 then (if true = true then _ else _) else _) = _
  rw [if_pos rfl, if_pos rfl]
theorem t_K_n {T : gM} {σ : List Int32} {y : sS} : t_K T (11 :: σ) false y = t_K T σ false (s_push y (14, 0)) := by
  show (if (11 : Int32) = 91 then _ else if (11 : Int32) = 11 then _ else _) = _
  rw [if_neg (by decide), if_pos rfl]
theorem t_K_a {T : gM} {σ : List Int32} {y : sS} : t_K T (12 :: σ) false y = t_K T σ false (s_push y (12, 0)) := by
  show (if (12 : Int32) = 91 then _ else if (12 : Int32) = 11 then _ else if (12 : Int32) = 12 then _ else _) = _
  rw [if_neg (by decide), if_neg (by decide), if_pos rfl]
theorem t_K_o0 {T : gM} {σ : List Int32} {y : sS} : t_K T (13 :: σ) false y = s_b (t_1 T (t_dp σ) y) (fun z => t_K T σ true (s_push z (13, 0))) := by
  show (if (13 : Int32) = 91 then _ else if (13 : Int32) = 11 then _ else if (13 : Int32) = 12 then _ else if false = true then _ else _) = _
  rw [if_neg (by decide), if_neg (by decide), if_neg (by decide), if_neg (by decide)]
theorem t_dp_1 {σ : List Int32} {w : Int32} (h : w = 91 ∨ w = 11) : t_dp (w :: σ) = t_dp σ + 1 := by
  show t_dp σ + (if w = 91 ∨ w = 11 then 1 else 0) = _
  rw [if_pos h]
theorem t_dp_0 {σ : List Int32} {w : Int32} (h : w = 12 ∨ w = 13) : t_dp (w :: σ) = t_dp σ := by
  show t_dp σ + (if w = 91 ∨ w = 11 then 1 else 0) = _
  rw [if_neg (by rcases h with e | e <;> (rw [e]; decide))]
  rfl
theorem t_K_J {T : gM} {x : sS} : s_J T 0 0 x = s_b (s_F T 0 x) (t_K T [] false) := by
  rw [t_j0, s_b_a]
  exact congrArg (s_b _) (funext (fun y => t_K_n0.symm))
theorem t_K_91 {T : gM} {σ : List Int32} {x : sS} : s_b (s_b (s_J T 0 (t_dp σ + 1) x) (s_close T)) (t_K T σ false) = s_b (s_F T (t_dp (91 :: σ)) x) (t_K T (91 :: σ) false) := by
  rw [t_j0, s_b_a, s_b_a, s_b_a, t_dp_1 (Or.inl rfl)]
  exact congrArg (s_b _) (funext (fun y => t_K_b0.symm))
theorem t_K_11 {T : gM} {σ : List Int32} {x : sS} : s_b (s_b (s_F T (t_dp σ + 1) x) (fun y => .inr (s_push y (14, 0)))) (t_K T σ false) = s_b (s_F T (t_dp (11 :: σ)) x) (t_K T (11 :: σ) false) := by
  rw [s_b_a, t_dp_1 (Or.inr rfl)]
  exact congrArg (s_b _) (funext (fun y => t_K_n.symm))
theorem t_sv_stop {least w : Int32} {σ : List Int32} {y : sS} (h : n_st w < least) : t_sv least (w :: σ) y = (w :: σ, y) := if_pos h
theorem t_sv_pop {least w : Int32} {σ : List Int32} {y : sS} (h : ¬ n_st w < least) : t_sv least (w :: σ) y = t_sv least σ (s_push y (t_op w, 0)) := if_neg h
theorem t_sv_wf {least : Int32} : ∀ (σ : List Int32) (y : sS), t_wf σ → t_wf (t_sv least σ y).1 := by
  intro σ
  induction σ with
  | nil => intro y h; exact h
  | cons w σ ih =>
    intro y h
    by_cases c : n_st w < least
    · rw [t_sv_stop c]; exact h
    · rw [t_sv_pop c]; exact ih _ h.2
theorem t_sv_top {least : Int32} (h0 : 0 < least) : ∀ (σ : List Int32) (y : sS), t_top (t_sv least σ y).1 < least := by
  intro σ
  induction σ with
  | nil => intro y; exact h0
  | cons w σ ih =>
    intro y
    by_cases c : n_st w < least
    · rw [t_sv_stop c]; exact c
    · rw [t_sv_pop c]; exact ih _
theorem t_sv_pl {least : Int32} : ∀ (σ : List Int32) (y : sS), (t_sv least σ y).2.1 = y.1 := by
  intro σ
  induction σ with
  | nil => intro y; rfl
  | cons w σ ih =>
    intro y
    by_cases c : n_st w < least
    · rw [t_sv_stop c]
    · rw [t_sv_pop c, ih]; rfl
/-- what a sign on top tells -/
theorem t_top0 {σ : List Int32} (W : t_wf σ) (h : t_top σ < 1) : σ = [] ∨ ∃ τ, σ = 91 :: τ := by
  cases σ with
  | nil => exact Or.inl rfl
  | cons w τ =>
    refine Or.inr ⟨τ, ?_⟩
    have h : n_st w < 1 := h
    rcases W.1 with e | e | ⟨e | e, _⟩
    · rw [e]
    · rw [e] at h; exact absurd h (by decide)
    · rw [e] at h; exact absurd h (by decide)
    · rw [e] at h; exact absurd h (by decide)
theorem t_lt3 {v : Int32} (h : v < 2) : v < 3 := by
  have a1 := Int32.lt_iff_toInt_lt.mp h
  refine Int32.lt_iff_toInt_lt.mpr ?_
  have z2 : (2 : Int32).toInt = 2 := rfl
  have z3 : (3 : Int32).toInt = 3 := rfl
  omega
-- 77.tsettled
/-! TESTS: the rest, settled -/
theorem t_K_set3 {T : gM} : ∀ (σ : List Int32) (y : sS), t_wf σ → t_K T σ false y = t_K T (t_sv 3 σ y).1 false (t_sv 3 σ y).2 := by
  intro σ
  induction σ with
  | nil => intro y W; rfl
  | cons w σ ih =>
    intro y W
    rcases W.1 with e | e | ⟨e | e, ht⟩
    · subst e
      rw [t_sv_stop (show n_st 91 < 3 by decide)]
    · subst e
      rw [t_sv_pop (show ¬ n_st 11 < 3 by decide), t_K_n]
      exact ih _ W.2
    · subst e
      rw [t_sv_stop (show n_st 12 < 3 by decide)]
    · subst e
      rw [t_sv_stop (show n_st 13 < 3 by decide)]
/-- behind the last FACT of a PART, and the last PART -/
theorem t_K_set1 {T : gM} : ∀ (σ : List Int32) (y : sS), t_wf σ → t_top σ < 3 → k_kind T y.1 ≠ 281 → t_K T σ false y = t_K T (t_sv 1 σ y).1 true (t_sv 1 σ y).2 := by
  intro σ
  induction σ with
  | nil =>
    intro y W h k
    show t_K T [] false y = t_K T [] true y
    rw [t_K_n0, t_1_end k, t_K_n1]
    rfl
  | cons w σ ih =>
    intro y W h k
    rcases W.1 with e | e | ⟨e | e, ht⟩
    · subst e
      rw [t_sv_stop (show n_st 91 < 1 by decide), t_K_b0, t_1_end k, t_K_b1]
      rfl
    · subst e
      exact absurd h (by show ¬ n_st 11 < 3; decide)
    · subst e
      rw [t_sv_pop (show ¬ n_st 12 < 1 by decide), t_K_a]
      exact ih (s_push y (12, 0)) W.2 (t_lt3 ht) k
    · subst e
      have ht1 : t_top σ < 1 := ht
      have e2 : t_sv 1 σ (s_push y (13, 0)) = (σ, s_push y (13, 0)) := by
        rcases t_top0 W.2 ht1 with e | ⟨τ, e⟩
        · subst e; rfl
        · subst e; exact t_sv_stop (by decide)
      rw [t_sv_pop (show ¬ n_st 13 < 1 by decide), show t_op 13 = 13 from rfl, e2, t_K_o0, t_1_end k]
      rfl
/-- ahead of an AND -/
theorem t_K_set2 {T : gM} : ∀ (σ : List Int32) (y : sS), t_wf σ → t_top σ < 3 → t_K T σ false y = t_K T (t_sv 2 σ y).1 false (t_sv 2 σ y).2 := by
  intro σ
  induction σ with
  | nil => intro y W h; rfl
  | cons w σ ih =>
    intro y W h
    rcases W.1 with e | e | ⟨e | e, ht⟩
    · subst e
      rw [t_sv_stop (show n_st 91 < 2 by decide)]
    · subst e
      exact absurd h (by show ¬ n_st 11 < 3; decide)
    · subst e
      rw [t_sv_pop (show ¬ n_st 12 < 2 by decide), t_K_a]
      exact ih (s_push y (12, 0)) W.2 (t_lt3 ht)
    · subst e
      rw [t_sv_stop (show n_st 13 < 2 by decide)]
theorem t_K_and {T : gM} (B : z_B T) {σ : List Int32} {y : sS} (W : t_wf σ) (h : t_top σ < 2) (k : k_kind T y.1 = 281) : t_K T σ false y = s_b (s_F T (t_dp σ) (k_go T y.1, y.2)) (t_K T (12 :: σ) false) := by
  cases σ with
  | nil =>
    rw [t_K_n0, t_1_go B k, s_b_a]
    refine congrArg (s_b _) (funext (fun z => ?_))
    rw [t_K_a, t_K_n0]
  | cons w τ =>
    rcases W.1 with e | e | ⟨e | e, _⟩
    · subst e
      rw [t_K_b0, t_1_go B k, s_b_a, t_dp_1 (Or.inl rfl)]
      refine congrArg (s_b _) (funext (fun z => ?_))
      rw [t_K_a, t_K_b0]
    · subst e
      exact absurd h (by show ¬ n_st 11 < 2; decide)
    · subst e
      exact absurd h (by show ¬ n_st 12 < 2; decide)
    · subst e
      rw [t_K_o0, t_1_go B k, s_b_a, t_dp_0 (Or.inr rfl)]
      refine congrArg (s_b _) (funext (fun z => ?_))
      rw [t_K_a, t_K_o0]
theorem t_K_or {T : gM} (B : z_B T) {σ : List Int32} {y : sS} (W : t_wf σ) (h : t_top σ < 1) (k : k_kind T y.1 = 282) : t_K T σ true y = s_b (s_F T (t_dp σ) (k_go T y.1, y.2)) (t_K T (13 :: σ) false) := by
  rcases t_top0 W h with e | ⟨τ, e⟩
  · subst e
    rw [t_K_n1, t_0_go B k]
    refine congrArg (s_b _) (funext (fun z => ?_))
    rw [t_K_o0]
    refine congrArg (s_b _) (funext (fun z => ?_))
    rw [t_K_n1]
  · subst e
    rw [t_K_b1, t_0_go B k, s_b_a, t_dp_1 (Or.inl rfl)]
    refine congrArg (s_b _) (funext (fun z => ?_))
    rw [t_K_o0, s_b_a, t_dp_1 (Or.inl rfl)]
    refine congrArg (s_b _) (funext (fun z => ?_))
    rw [t_K_b1]
theorem t_K_end0 {T : gM} {y : sS} (k : k_kind T y.1 ≠ 282) : t_K T [] true y = .inr y := by
  rw [t_K_n1, t_0_end k]
theorem t_K_end1 {T : gM} {σ : List Int32} {y : sS} (k : k_kind T y.1 ≠ 282) : t_K T (91 :: σ) true y = s_b (s_close T y) (t_K T σ false) := by
  rw [t_K_b1, t_0_end k]
  rfl
/-- whether a bracket waits -/
theorem t_sv1_m : ∀ (σ : List Int32) (y : sS), 91 ∈ (t_sv 1 σ y).1 ↔ 91 ∈ σ := by
  intro σ
  induction σ with
  | nil => intro y; exact Iff.rfl
  | cons w σ ih =>
    intro y
    by_cases c : n_st w < 1
    · rw [t_sv_stop c]
    · rw [t_sv_pop c, ih, List.mem_cons]
      refine ⟨Or.inr, fun z => z.elim (fun e => ?_) id⟩
      subst e
      exact absurd (by decide) c
theorem t_sv1_in {σ : List Int32} {y : sS} (W : t_wf σ) : (91 ∈ σ → ∃ τ, (t_sv 1 σ y).1 = 91 :: τ) ∧ (¬ 91 ∈ σ → (t_sv 1 σ y).1 = []) := by
  have W2 := t_sv_wf (least := 1) σ y W
  have h := t_sv_top (least := 1) (by decide) σ y
  rcases t_top0 W2 h with e | ⟨τ, e⟩
  · refine ⟨fun z => ?_, fun _ => e⟩
    rw [← t_sv1_m σ y, e] at z
    cases z
  · refine ⟨fun _ => ⟨τ, e⟩, fun z => ?_⟩
    rw [← t_sv1_m σ y, e] at z
    exact absurd List.mem_cons_self z
-- 78.eset
/-! TESTS of the reference: what waits, in memory -/
def t_S (f : Nat → Int32) : List Int32 → Prop
  | [] => True
  | w :: σ => f σ.length = w ∧ t_S f σ
theorem t_S_c {f g : Nat → Int32} : ∀ {σ : List Int32}, (∀ q, q < σ.length → g q = f q) → t_S f σ → t_S g σ := by
  intro σ
  induction σ with
  | nil => intro _ _; trivial
  | cons w σ ih =>
    intro h hc
    exact ⟨(h σ.length (by simp)).trans hc.1, ih (fun q hq => h q (by simp; omega)) hc.2⟩
theorem t_S_m {f : Nat → Int32} : ∀ {σ : List Int32}, t_S f σ → (91 ∈ σ ↔ ∃ j, j < σ.length ∧ f j = 91) := by
  intro σ
  induction σ with
  | nil => intro _; exact ⟨fun h => (by cases h), fun ⟨j, h, _⟩ => absurd h (Nat.not_lt_zero _)⟩
  | cons w σ ih =>
    intro h
    rw [List.mem_cons, ih h.2]
    constructor
    · rintro (e | ⟨j, h1, h2⟩)
      · exact ⟨σ.length, by simp, h.1.trans e.symm⟩
      · exact ⟨j, by simp; omega, h2⟩
    · rintro ⟨j, h1, h2⟩
      have h1 : j < σ.length + 1 := by simpa using h1
      rcases Nat.lt_or_ge j σ.length with c | c
      · exact Or.inr ⟨j, c, h2⟩
      · have : j = σ.length := by omega
        subst this
        exact Or.inl (h2.symm.trans h.1)
def t_M (T : gM) (t : Nat) (M : gM) (σ : List Int32) (x : sS) : Prop := r_X T t M x ∧ (n_o M = σ.length ∧ t_S (n_w2 M) σ) ∧ ((M.2.1 175 13).toInt = (t_dp σ : Int) ∧ t_dp σ ≤ 10) ∧ t_wf σ
/-- what the place in a RULE does not look at -/
theorem r_Xw {T : gM} {t i k : Nat} {v : Int32} {M : gM} {x : sS} (X : r_X T t M x) (h : (i = 175 ∧ (k = 13 ∨ k = 16)) ∨ i = 182) : r_X T t (mI M i k v) x := by
  have o : ∀ j a, j ≠ 182 → ¬ (j = 175 ∧ (a = 13 ∨ a = 16)) → (mI M i k v).2.1 j a = M.2.1 j a := fun j a h1 h2 => by
    refine mI_ne ?_
    by_cases c : j = i
    · refine Or.inr (fun e => ?_)
      subst c; subst e
      rcases h with h | h
      · exact h2 h
      · exact h1 h
    · exact Or.inl c
  refine ⟨⟨(funext (fun q => o 176 q (by decide) (by omega))).trans X.1.1, ?_⟩, ?_, ⟨by rw [o _ _ (by decide) (by omega)]; exact X.2.2.1.1, ?_⟩, ?_, r_O_c (fun j _ => o 177 _ (by decide) (by omega)) X.2.2.2.2⟩
  · rw [← X.1.2]; unfold n_s; rw [o _ _ (by decide) (by omega)]
  · have : n_x (mI M i k v) = n_x M := by unfold n_x; rw [o _ _ (by decide) (by omega)]
    rw [this]
    exact X.2.1
  · rw [← X.2.2.1.2]; unfold n_m; rw [o _ _ (by decide) (by omega)]
  · rw [← X.2.2.2.1]; unfold n_l; rw [o _ _ (by decide) (by omega)]
theorem E_settles_L0 {T : gM} {t a c : Nat} {least : Int32} (hl : 1 ≤ least.toInt) : ∀ (n : Nat) {M : gM} {σ : List Int32} {x : sS}, p_J t a 1 c M → t_M T t M σ x → n_o M < n → Ok (F_X12_settles_L0 n (some 175) least M) (fun M' => t_M T t M' (t_sv least σ x).1 (t_sv least σ x).2) := by
  intro n
  induction n with
  | zero => intro M σ x J X h; omega
  | succ n ih =>
    intro M σ x J X h
    show Ok (F_X12_settles_b0 (F_X12_settles_L0 n) (some 175) least M) _
    obtain ⟨X0, ⟨no, sS0⟩, ⟨dp, dp2⟩, W⟩ := X
    have H := J.1.1.1.1
    have o1 := n_o1 H
    have z0 : (0 : Int32).toInt = 0 := rfl
    have z1 : (1 : Int32).toInt = 1 := rfl
    delta F_X12_settles_b0
    rw [e_gI H, Option.bind_some]
    cases σ with
    | nil =>
      have no : n_o M = 0 := no
      rw [if_pos (Int32.le_iff_toInt_le.mpr (by omega))]
      exact Ok_s ⟨X0, ⟨no, sS0⟩, ⟨dp, dp2⟩, W⟩
    | cons w σ =>
    have hm : n_o M = σ.length + 1 := no
    obtain ⟨m, em0⟩ : ∃ m, m = σ.length := ⟨_, rfl⟩
    rw [← em0] at hm
    have am := i_subc (x := M.2.1 175 16) (c := (1 : Int32)) z1 (by omega) (by omega)
    have cm : (M.2.1 175 16 - (1 : Int32)).toInt = (m : Int) := by omega
    have em : M.2.1 175 16 - (1 : Int32) = Int32.ofNat m := i_of cm (by omega)
    have hw : M.2.1 182 m = w := by
      rw [em0]
      exact sS0.1
    rw [if_neg (fun z => by have := i_le z; omega), e_gR H (w := 182) rfl (by decide), Option.bind_some, Option.bind_some, e_aI H (t := 20) (i := 182) (n := 400) rfl (by decide) (by omega) (by omega), Option.bind_some, R_strength, Option.bind_some, i_cl cm, hw]
    by_cases cs : n_st w < least
    · rw [if_pos cs, t_sv_stop cs]
      exact Ok_s ⟨X0, ⟨no, sS0⟩, ⟨dp, dp2⟩, W⟩
    have hs := i_nlt cs
    rw [t_sv_pop cs]
    have hw2 : w = 11 ∨ w = 12 ∨ w = 13 := by
      rcases n_st_r (s := w) with e | e | e | e
      · rw [e] at hs
        omega
      · exact Or.inl e
      · exact Or.inr (Or.inl e)
      · exact Or.inr (Or.inr e)
    have X7 := r_Xw (v := Int32.ofNat m) X0 (i := 175) (k := 16) (Or.inl ⟨rfl, Or.inr rfl⟩)
    have d7 : (mI M 175 16 (Int32.ofNat m)).2.1 175 13 = M.2.1 175 13 := mI_ne (Or.inr (by decide))
    obtain ⟨M7, hM7⟩ : ∃ M7, M7 = mI M 175 16 (Int32.ofNat m) := ⟨_, rfl⟩
    rw [← hM7] at X7 d7
    have ci : (Int32.ofNat m).toInt = (m : Int) := i_ofNat (by omega)
    obtain ⟨H7, f7⟩ : y_HT M7 ∧ y_Fr (2 ^ 16) M M7 := by
      subst hM7
      refine y_set (M' := mI M 175 16 (Int32.ofNat m)) (S := 2 ^ 16) H (i := 175) (k := 16) (by decide) rfl rfl y_mI1 (fun j a hj => y_mI2 hj) rfl ?_ (by decide)
      show y_rg (0, 400) _
      unfold y_rg
      rw [ci]
      exact ⟨by omega, by show (m : Int) ≤ 400; omega⟩
    have v7 : M7.2.1 175 16 = Int32.ofNat m := by
      subst hM7
      exact y_mI1
    have o7 : n_o M7 = m := by
      show (M7.2.1 175 16).toInt.toNat = m
      rw [v7, ci]
      rfl
    have w7 : n_w2 M7 = n_w2 M := funext (fun q => y_fa (i := 182) f7 (by decide) (by decide) q)
    have x7 := n_fx f7 (by decide)
    have l7 := n_fl (t := t) f7 (by decide)
    obtain ⟨JI, JW⟩ := J
    have hnb : p_nb (n_w2 M) (n_o M) = p_nb (n_w2 M) m + (if w = 12 ∨ w = 13 then 1 else 0) := by
      rw [hm, ← hw]
      rfl
    rw [hm] at JW
    have I7 : p_I t a (p_nb (n_w2 M) (n_o M) + 1) (n_o M + c) M7 := p_I_of JI H7 f7 (by decide) ⟨by rw [x7]; exact JI.2.1.1, by rw [x7]; exact JI.2.1.2⟩ (by rw [n_fm f7 (by decide)]; exact Nat.le_refl _)
    have e182 : M7.2.1 182 m = w := by
      rw [← hw]
      exact congrFun w7 _
    have hx := I7.2.1
    have s7 := n_s1 H7
    rw [if_neg cs, Option.bind_some, e_pI H, Option.bind_some, em, ← hM7]
    rw [e_gR H7 (w := 182) rfl (by decide), Option.bind_some, e_gI H7, Option.bind_some, v7, e_aI H7 (t := 20) (i := 182) (n := 400) rfl (by decide) (by omega) (by omega), Option.bind_some, i_cl ci, e182, e_gO H7, Option.bind_some, R_puts H7 I7.1.1.2 I7.1.2 (by omega), Option.bind_some]
    have hst : y_st (w + (16 : Int32) * (0 : Int32)) (p_nb (n_w2 M) (n_o M) + 1) = some (p_nb (n_w2 M) m + 1) := by
      rw [hnb]
      rcases hw2 with e | e | e
      · rw [e, if_neg (by decide)]
        exact y_st11
      · rw [e, if_pos (by decide)]
        exact y_stB (w := 12) (by decide)
      · rw [e, if_pos (by decide)]
        exact y_stB (w := 13) (by decide)
    obtain ⟨I8, F8, x8⟩ := p_puts (S := p_T) (c := m + c) (p_I_of (c2 := m + c + 1) I7 H7 (y_rf0 0 _) (by decide) ⟨by omega, hx.2⟩ (Nat.le_refl _)) hst (by have := I7.2.2.2; omega) (by decide)
    have X8 := r_Xput X7 H7 (w := w + (16 : Int32) * (0 : Int32)) (a := (t_op w, 0)) (by omega) (by rcases hw2 with e | e | e <;> (rw [e]; decide))
    have o8 : n_o (n_p M7 t (w + (16 : Int32) * (0 : Int32))) = m := by
      show ((n_p M7 t (w + (16 : Int32) * (0 : Int32))).2.1 175 16).toInt.toNat = m
      unfold n_p
      rw [mI_ne (Or.inl (by decide)), mI_ne (Or.inl (by decide)), v7, ci]
      rfl
    have d8 : (n_p M7 t (w + (16 : Int32) * (0 : Int32))).2.1 175 13 = M.2.1 175 13 := by
      unfold n_p
      rw [mI_ne (Or.inl (by decide)), mI_ne (Or.inl (by decide)), d7]
    have w8 : n_w2 (n_p M7 t (w + (16 : Int32) * (0 : Int32))) = n_w2 M := by
      refine Eq.trans (funext (fun q => ?_)) w7
      show (n_p M7 t (w + (16 : Int32) * (0 : Int32))).2.1 182 q = M7.2.1 182 q
      unfold n_p
      rw [mI_ne (Or.inl (by decide)), mI_ne (Or.inl (by decide))]
    generalize n_p M7 t (w + (16 : Int32) * (0 : Int32)) = M8 at I8 F8 x8 o8 w8 d8 X8 ⊢
    have J8 : p_J t a 1 c M8 := by
      unfold p_J
      rw [o8, w8]
      exact ⟨I8, fun k hk => JW k (by omega)⟩
    have H8 := I8.1.1.1
    have v8 : M8.2.1 175 16 = Int32.ofNat m := i_of (by rw [(n_o1 H8).1, o8]) (by omega)
    have e8 : M8.2.1 182 m = w := (congrFun w8 m).trans hw
    have S8 : t_S (n_w2 M8) σ := by rw [w8]; exact sS0.2
    rw [e_gR H8 (w := 182) rfl (by decide), Option.bind_some, e_gI H8, Option.bind_some, v8, e_aI H8 (t := 20) (i := 182) (n := 400) rfl (by decide) (by omega) (by omega), Option.bind_some, i_cl ci, e8]
    by_cases c11 : w = 11
    · rw [if_pos c11, e_gI H8, Option.bind_some, e_pI H8, Option.bind_some]
      have ed : t_dp (w :: σ) = t_dp σ + 1 := t_dp_1 (Or.inr c11)
      obtain ⟨J10, F10, x10, s10, w10, o10⟩ := p_J_deep (v := M8.2.1 175 13 - (1 : Int32)) J8
      have X10 := r_Xw (v := M8.2.1 175 13 - (1 : Int32)) X8 (i := 175) (k := 13) (Or.inl ⟨rfl, Or.inl rfl⟩)
      refine ih J10 ⟨X10, ⟨by rw [o10, o8, em0], by rw [w10]; exact S8⟩, ⟨?_, by omega⟩, W.2⟩ (by omega)
      rw [y_mI1, d8, i_subc (n := 1) rfl (by omega) (by omega)]
      omega
    · rw [if_neg c11]
      have ed : t_dp (w :: σ) = t_dp σ := t_dp_0 (hw2.resolve_left c11)
      exact ih J8 ⟨X8, ⟨by rw [o8, em0], S8⟩, ⟨by rw [d8, ← ed]; exact dp, by omega⟩, W.2⟩ (by omega)
theorem E_settles {T : gM} {t a c : Nat} {least : Int32} {M : gM} {σ : List Int32} {x : sS} (hl : 1 ≤ least.toInt) (J : p_J t a 1 c M) (X : t_M T t M σ x) : Ok (F_X12_settles (some 175) least M) (fun M' => t_M T t M' (t_sv least σ x).1 (t_sv least σ x).2) := E_settles_L0 hl _ J X (n_fu (n_o1 J.1.1.1.1).2)
-- 79.efact
/-! TESTS of the reference: FACTS -/
theorem n_op_X {T : gM} {t : Nat} {M : gM} {w : Int32} {x : sS} (X : r_X T t M x) : r_X T t (n_op M w) x := r_Xw (r_Xw X (Or.inr rfl)) (Or.inl ⟨rfl, Or.inr rfl⟩)
theorem E_opens {T : gM} {t : Nat} {w : Int32} {M : gM} {σ : List Int32} {x : sS} (hw : w = 91 ∨ w = 11) (H : y_HT M) (h : n_o M < 400) (X : t_M T t M σ x) (hx : n_x M = x.1) : Ok (F_X12_opens (some 175) w M) (fun r => (10 ≤ t_dp σ → r.1 = 0 ∧ (r.2.2.1 175 9).toInt = ((1 + 8 * x.1 + 2 : Nat) : Int)) ∧ (¬ 10 ≤ t_dp σ → r.1 = 1 ∧ ∀ p q, p ≤ 400 → n_sk T p = q → t_M T t (n_at r.2 p) (w :: σ) (q, x.2))) := by
  obtain ⟨X0, ⟨no, sS0⟩, ⟨dp, dp2⟩, W⟩ := X
  have x1 := n_x1 H
  have z10 : (10 : Int32).toInt = 10 := rfl
  rw [R_opens H h]
  by_cases c : M.2.1 175 13 = 10
  · rw [if_pos c]
    rw [c] at dp
    exact Ok_s ⟨fun _ => ⟨rfl, n_f_0 X0.2.2.1.1 (by rw [x1.1, hx]) (by have := x1.2; omega) rfl (by decide)⟩, fun z => by omega⟩
  · rw [if_neg c]
    have dlt : t_dp σ < 10 := by
      rcases Nat.lt_or_ge (t_dp σ) 10 with e | e
      · exact e
      · exact absurd (Int32.toInt_inj.mp (by omega)) c
    refine Ok_s ⟨fun z => by omega, fun _ => ⟨rfl, fun p q hp hq => ?_⟩⟩
    have X1 := r_Xw (v := M.2.1 175 13 + (1 : Int32)) X0 (i := 175) (k := 13) (Or.inl ⟨rfl, Or.inl rfl⟩)
    have o1 : n_o (mI M 175 13 (M.2.1 175 13 + (1 : Int32))) = n_o M := by
      unfold n_o
      rw [mI_ne (Or.inr (by decide))]
    have w1 : n_w2 (mI M 175 13 (M.2.1 175 13 + (1 : Int32))) = n_w2 M := funext (fun q => mI_ne (Or.inl (by decide)))
    have d1 : (mI M 175 13 (M.2.1 175 13 + (1 : Int32))).2.1 175 13 = Int32.ofNat (t_dp σ + 1) := by rw [y_mI1, n_inc dp (by omega)]
    generalize mI M 175 13 (M.2.1 175 13 + (1 : Int32)) = M1 at X1 o1 w1 d1 ⊢
    have X2 := n_op_X (w := w) X1
    have o2 : n_o (n_op M1 w) = n_o M1 + 1 := n_op_o (by omega)
    obtain ⟨v1, v2⟩ := n_op_w (M := M1) (w := w)
    have d2 : (n_op M1 w).2.1 175 13 = Int32.ofNat (t_dp σ + 1) := by
      unfold n_op
      rw [mI_ne (Or.inr (by decide)), mI_ne (Or.inl (by decide)), d1]
    have ed := t_dp_1 (σ := σ) hw
    refine ⟨r_Xat X2 hp hq, ⟨?_, ?_, ?_⟩, ⟨?_, by omega⟩, ⟨hw.elim Or.inl (fun e => Or.inr (Or.inl e)), W⟩⟩
    · show n_o (n_at (n_op M1 w) p) = σ.length + 1
      rw [n_at_o, o2, o1, no]
    · show n_w2 (n_at (n_op M1 w) p) σ.length = w
      rw [show n_w2 (n_at (n_op M1 w) p) = n_w2 (n_op M1 w) from funext (fun q => mI_ne (Or.inl (by decide))), ← no, ← o1]
      exact v1
    · rw [show n_w2 (n_at (n_op M1 w) p) = n_w2 (n_op M1 w) from funext (fun q => mI_ne (Or.inl (by decide)))]
      refine t_S_c (fun j hj => ?_) sS0
      rw [v2 j (by omega), w1]
    · rw [n_atk (by decide), d2, i_ofNat (by omega), ed]
/-- where a TEST goes on, or a FAULT -/
def t_R (T : gM) (t : Nat) (r0 : s_R) : Int32 × gM → Prop := fun y => (y.1 = 0 ∧ ∃ e, r0 = .inl e ∧ (y.2.2.1 175 9).toInt = (e : Int)) ∨ (y.1 = 1 ∧ ∃ σ z, t_M T t y.2 σ z ∧ r0 = t_K T σ false z)
theorem t_Mat {T : gM} {t p q : Nat} {M : gM} {σ : List Int32} {x : sS} (X : t_M T t M σ x) (h : p ≤ 400) (hq : n_sk T p = q) : t_M T t (n_at M p) σ (q, x.2) := by
  obtain ⟨X0, ⟨no, sS0⟩, ⟨dp, dp2⟩, W⟩ := X
  refine ⟨r_Xat X0 h hq, ⟨by rw [n_at_o]; exact no, ?_⟩, ⟨by rw [n_atk (by decide)]; exact dp, dp2⟩, W⟩
  rw [show n_w2 (n_at M p) = n_w2 M from funext (fun q => mI_ne (Or.inl (by decide)))]
  exact sS0
theorem t_Msee {T : gM} {t : Nat} {M : gM} {σ : List Int32} {x : sS} (X : t_M T t M σ x) (H : y_HT M) (h : n_x M ≤ n_s M) : n_sk M (n_x M) = x.1 ∧ t_M T t (n_at M x.1) σ x := by
  obtain ⟨e, X1⟩ := r_Xsee X.1 H h
  have s1 := n_s1 H
  have hk := n_sk_le h
  have := t_Mat (p := x.1) (q := x.1) X (by omega) (by rw [← X.1.2.1, n_sk_sk])
  exact ⟨e, this⟩
/-- what reading a COMPARE leaves -/
theorem t_Mfr {T : gM} {t S : Nat} {M M' : gM} {σ : List Int32} {x y : sS} (X : t_M T t M σ x) (f : y_Fr S M M') (h : Nat.land S (2 ^ 13 + 2 ^ 16 + 2 ^ 47) = 0) (X2 : r_X T t M' y) : t_M T t M' σ y := by
  obtain ⟨X0, ⟨no, sS0⟩, ⟨dp, dp2⟩, W⟩ := X
  have o := n_fo f (y_dis h (by decide))
  have w : n_w2 M' = n_w2 M := funext (fun q => y_fa (i := 182) f (by decide) (y_dis h (by decide)) q)
  exact ⟨X2, ⟨by rw [o]; exact no, by rw [w]; exact sS0⟩, ⟨by rw [y_fk (i := 175) (k := 13) f (y_dis h (by decide))]; exact dp, dp2⟩, W⟩
theorem n_w_not {T : gM} {p : Nat} : n_w T p 7237492 = true ↔ k_kind T p = 280 := w_iff (i := 19) (by decide) (by decide)
theorem n_w_and {T : gM} {p : Nat} : n_w T p 6385252 = true ↔ k_kind T p = 281 := w_iff (i := 20) (by decide) (by decide)
theorem n_w_or {T : gM} {p : Nat} : n_w T p 28530 = true ↔ k_kind T p = 282 := w_iff (i := 21) (by decide) (by decide)
theorem k_go_w {T : gM} {p : Nat} (h : 260 ≤ k_kind T p) : k_go T p = n_sk T (n_le T p) := by
  refine k_go_L ?_
  by_cases c : n_L T p = true
  · exact c
  · have := k_nl_r c
    omega
theorem E_fact_L2 {T : gM} (B : z_B T) {t a c : Nat} : ∀ (n : Nat) {l1 : Int32} {M : gM} {σ : List Int32} {x : sS}, p_J t a 0 c M → t_M T t M σ x → (l1 = 0 → k_kind T x.1 ≠ 91 ∧ k_kind T x.1 ≠ 280) → (n_s M - n_x M + (if l1 = 0 then 0 else 1) < n) → Ok (F_X12_fact_L2 n (some 175) l1 M) (t_R T t (s_b (s_F T (t_dp σ) x) (t_K T σ false))) := by
  intro n
  induction n with
  | zero => intro l1 M σ x J X hk h; omega
  | succ n ih =>
    intro l1 M σ x J X hk h
    show Ok (F_X12_fact_b2 (F_X12_fact_L2 n) (some 175) l1 M) _
    have H := J.1.1.1.1
    have d10 := X.2.2.1.2
    delta F_X12_fact_b2 F_X12_fact_b72
    by_cases c1 : l1 = 0
    · obtain ⟨q1, q2⟩ := hk c1
      rw [if_pos c1, e_gO H, Option.bind_some, s_F_eq d10, if_neg q1, if_neg q2]
      refine Ok_b (Ok_and (P_compare J.1) (E_cmp B J.1 X.1)) (fun y z => ?_)
      obtain ⟨v2, M3⟩ := y
      obtain ⟨⟨⟨H3, F3⟩, P⟩, E⟩ := z
      dsimp only at P E H3 F3 ⊢
      generalize s_cmp T x = r at E ⊢
      cases r with
      | inl e =>
        obtain ⟨h3, g3⟩ := E
        dsimp only at h3 g3
        rw [if_pos (Or.inl h3)]
        exact Ok_s (Or.inl ⟨h3, e, rfl, g3⟩)
      | inr y =>
        obtain ⟨h3, X3⟩ := E
        dsimp only at h3 X3
        rw [if_pos (Or.inr h3)]
        exact Ok_s (Or.inr ⟨h3, σ, y, t_Mfr X F3.1 (by decide) X3, rfl⟩)
    rw [if_neg c1] at h
    have hx := J.1.2.1
    have s1 := n_s1 H
    obtain ⟨p, hp⟩ : ∃ p, p = n_sk M (n_x M) := ⟨_, rfl⟩
    have k1 := n_sk_le hx.2
    obtain ⟨ex, X1⟩ := t_Msee X H hx.2
    have px : p = x.1 := hp.trans ex
    rw [← px] at X1
    rw [← hp] at k1
    have J1 : p_J t a 0 c (n_at M p) := p_J_at J (by omega) (by omega)
    have H1 := J1.1.1.1.1
    have x1 : n_x (n_at M p) = p := n_at_x (by omega)
    have s2 : n_s (n_at M p) = n_s M := n_at_s
    have l2 : n_l (n_at M p) t = n_l M t := n_at_l
    have o2 : n_o (n_at M p) = n_o M := n_at_o
    obtain ⟨⟨⟨eL, eD⟩, ⟨esk, ele⟩, ede⟩, ⟨ew, ev⟩, ⟨eo, ec⟩, eh⟩ := n_T X.1.1.1 X.1.1.2
    rw [if_neg c1, e_gO H, Option.bind_some, R_see H hx.2, ← hp, Option.bind_some]
    dsimp only
    rw [e_gC H1, Option.bind_some, R_isW2 H hx.2 hp, Option.bind_some]
    dsimp only
    by_cases cw : n_w M p 7237492 = true
    · have hle := n_w_le cw
      have e2 := (n_le_le (M := M) (p := p) (by omega)).2
      have kn : k_kind T x.1 = 280 := by rw [← px]; exact n_w_not.mp (by rw [← ew]; exact cw)
      have kg : n_sk T (n_le M p) = k_go T x.1 := by rw [ele, px]; exact (k_go_w (by omega)).symm
      rw [if_pos cw, if_neg (by decide), e_gC H1, Option.bind_some, s_F_eq d10, if_neg (by rw [kn]; decide), if_pos kn]
      refine Ok_b (Ok_and (P_opens (Or.inr rfl) J1 (by omega) (by omega)) (E_opens (Or.inr rfl) H1 (by omega) X1 (by rw [x1]; exact px))) (fun y z => ?_)
      obtain ⟨v, M2⟩ := y
      obtain ⟨⟨⟨H2, F2⟩, P⟩, E1, E2⟩ := z
      dsimp only at P E1 E2 H2 F2 ⊢
      by_cases c10 : 10 ≤ t_dp σ
      · obtain ⟨h5, g5⟩ := E1 c10
        rw [if_pos h5, if_pos c10]
        exact Ok_s (Or.inl ⟨rfl, _, rfl, g5⟩)
      · obtain ⟨h5, g5⟩ := E2 c10
        subst h5
        rcases P with ⟨h5, _⟩ | ⟨_, x5, w5⟩
        · exact absurd h5 (by decide)
        have l3 : n_le M2 p = n_le M p := (congrFun (n_fle F2.1 (by decide) (by decide)) p).trans n_at_le
        have s3 := n_Fs F2 (by decide)
        rw [if_neg (by decide), e_gC H2, Option.bind_some, R_passWord H2 (by omega), Option.bind_some, x5, x1, l3, if_neg c10, t_K_11]
        have J5 := w5 (n_le M p) (by omega) (by omega)
        have X5 := g5 (n_le M p) (k_go T x.1) (by omega) kg
        refine ih J5 X5 (fun z => absurd z (by decide)) ?_
        rw [n_at_x (by omega), n_at_s, if_neg (by decide)]
        omega
    · have kn : ¬ k_kind T x.1 = 280 := by
        rw [← px]
        intro z
        exact cw (by rw [ew]; exact n_w_not.mpr z)
      rw [if_neg cw, if_pos rfl]
      have k91 := k_s1 (T := T) (p := p) (c := (91 : Int32)) (n := 91) rfl (by omega) (by omega) (by omega) (by omega)
      refine Ok_i (fun e91 => ?_) (fun e91 => ?_)
      · have hlt := n_c_lt e91 (by decide)
        rw [ec] at e91
        have kb : k_kind T x.1 = 91 := by rw [← px]; exact k91.1.mp e91
        have kg : n_sk T (p + 1) = k_go T x.1 := by rw [← px]; exact (k91.2 e91).symm
        rw [e_gC H1, Option.bind_some, s_F_eq d10, if_pos kb]
        refine Ok_b (Ok_and (P_opens (Or.inl rfl) J1 (by omega) (by omega)) (E_opens (Or.inl rfl) H1 (by omega) X1 (by rw [x1]; exact px))) (fun y z => ?_)
        obtain ⟨v, M2⟩ := y
        obtain ⟨⟨⟨H2, F2⟩, P⟩, E1, E2⟩ := z
        dsimp only at P E1 E2 H2 F2 ⊢
        by_cases c10 : 10 ≤ t_dp σ
        · obtain ⟨h5, g5⟩ := E1 c10
          rw [if_pos h5, if_pos c10]
          exact Ok_s (Or.inl ⟨rfl, _, rfl, g5⟩)
        · obtain ⟨h5, g5⟩ := E2 c10
          subst h5
          rcases P with ⟨h5, _⟩ | ⟨_, x5, w5⟩
          · exact absurd h5 (by decide)
          have s3 := n_Fs F2 (by decide)
          rw [if_neg (by decide), e_gI H2, Option.bind_some, e_pI H2, Option.bind_some, n_next H2, x5, x1, if_neg c10, t_K_91]
          have J5 := w5 (p + 1) (by omega) (by omega)
          have X5 := g5 (p + 1) (k_go T x.1) (by omega) kg
          refine ih J5 X5 (fun z => absurd z (by decide)) ?_
          rw [n_at_x (by omega), n_at_s, if_neg (by decide)]
          omega
      · rw [ec] at e91
        refine ih J1 X1 (fun _ => ⟨?_, kn⟩) ?_
        · rw [← px]
          exact mt k91.1.mpr e91
        · rw [if_pos rfl]
          omega
theorem E_fact {T : gM} (B : z_B T) {t a c : Nat} {M : gM} {σ : List Int32} {x : sS} (J : p_J t a 0 c M) (X : t_M T t M σ x) : Ok (F_X12_fact (some 175) M) (t_R T t (s_b (s_F T (t_dp σ) x) (t_K T σ false))) := by
  have s1 := n_s1 J.1.1.1.1
  delta F_X12_fact F_X12_fact_b0
  refine E_fact_L2 B _ J X (fun z => absurd z (by decide)) ?_
  rw [if_neg (by decide)]
  have : g_fuel = 1000000000 := rfl
  omega
-- 7a.etest
/-! TESTS of the reference as the document says -/
theorem t_M_pop {T : gM} {t : Nat} {M : gM} {τ : List Int32} {x : sS} {v : Int32} {m : Nat} (H : y_HT M) (X : t_M T t M (91 :: τ) x) (hm : n_o M = m + 1) (hv : v.toInt = ((t_dp (91 :: τ) : Nat) : Int) - 1) : t_M T t (mI (mI M 175 16 (Int32.ofNat m)) 175 13 v) τ x ∧ t_dp (91 :: τ) = t_dp τ + 1 := by
  obtain ⟨X0, ⟨no, sS0⟩, ⟨dp, dp2⟩, W⟩ := X
  have no : n_o M = τ.length + 1 := no
  have ed := t_dp_1 (σ := τ) (w := 91) (Or.inl rfl)
  have w : n_w2 (mI (mI M 175 16 (Int32.ofNat m)) 175 13 v) = n_w2 M := funext (fun q => by
    show (mI (mI M 175 16 (Int32.ofNat m)) 175 13 v).2.1 182 q = M.2.1 182 q
    rw [mI_ne (Or.inl (by decide)), mI_ne (Or.inl (by decide))])
  refine ⟨⟨r_Xw (r_Xw X0 (Or.inl ⟨rfl, Or.inr rfl⟩)) (Or.inl ⟨rfl, Or.inl rfl⟩), ⟨?_, by rw [w]; exact sS0.2⟩, ⟨by rw [y_mI1, hv]; omega, by omega⟩, W.2⟩, ed⟩
  have o1 := n_o1 H
  unfold n_o
  rw [mI_ne (Or.inr (by decide)), y_mI1, i_ofNat (by omega)]
  omega
/-- behind closes: no NOT waits, no bracket that could be closed -/
def t_C (T : gM) (t : Nat) (r0 : s_R) (M' : gM) : Prop := ∃ σ z, t_M T t M' σ z ∧ r0 = t_K T σ false z ∧ (t_top σ < 3 ∧ n_x M' = z.1) ∧ (k_kind T z.1 = 93 → ¬ (91 : Int32) ∈ σ)
theorem E_closes_L5 {T : gM} {t a c : Nat} : ∀ (n : Nat) {M : gM} {σ : List Int32} {x : sS}, p_J t a 1 c M → t_M T t M σ x → t_top σ < 3 → n_s M - n_x M < n → Ok (F_X12_closes_L5 n (some 175) M) (t_C T t (t_K T σ false x)) := by
  intro n
  induction n with
  | zero => intro M σ x J X ht h; omega
  | succ n ih =>
    intro M σ x J X ht h
    show Ok (F_X12_closes_b5 (F_X12_closes_L5 n) (some 175) M) _
    have H := J.1.1.1.1
    have hx := J.1.2.1
    have s1 := n_s1 H
    obtain ⟨p, hp⟩ : ∃ p, p = n_sk M (n_x M) := ⟨_, rfl⟩
    have k1 := n_sk_le hx.2
    obtain ⟨ex, X1⟩ := t_Msee X H hx.2
    have px : p = x.1 := hp.trans ex
    rw [← px] at X1
    rw [← hp] at k1
    have J1 : p_J t a 1 c (n_at M p) := p_J_at J (by omega) (by omega)
    have H1 := J1.1.1.1.1
    have x1 : n_x (n_at M p) = p := n_at_x (by omega)
    have s2 : n_s (n_at M p) = n_s M := n_at_s
    have ec : n_c M p = n_c T p := congrFun (n_T X.1.1.1 X.1.1.2).2.2.1.2 p
    have k93 := k_s1 (T := T) (p := p) (c := (93 : Int32)) (n := 93) rfl (by omega) (by omega) (by omega) (by omega)
    have mem := t_S_m X1.2.1.2
    have no1 := X1.2.1.1
    delta F_X12_closes_b5
    rw [e_gO H, Option.bind_some, R_see H hx.2, ← hp, Option.bind_some]
    dsimp only
    refine Ok_i (fun e => ?_) (fun e => ?_)
    · have hlt := n_c_lt e (by decide)
      rw [ec] at e
      have kx : k_kind T x.1 = 93 := by rw [← px]; exact k93.1.mp e
      have kg : n_sk T (p + 1) = k_go T x.1 := by rw [← px]; exact (k93.2 e).symm
      generalize n_at M p = M3 at J1 H1 x1 s2 X1 mem no1 ⊢
      rw [e_gC H1, Option.bind_some]
      refine Ok_b (R_isInside H1) (fun v5 z => ?_)
      rcases z with ⟨z, z2⟩ | ⟨z, j, hj, z2⟩
      · subst z
        rw [if_pos rfl]
        refine Ok_s ⟨σ, x, X1, rfl, ⟨ht, x1.trans px⟩, fun _ hm => ?_⟩
        obtain ⟨j, h1, h2⟩ := mem.mp hm
        exact z2 j (by omega) h2
      · subst z
        rw [if_neg (by decide)]
        have inn : (91 : Int32) ∈ σ := mem.mpr ⟨j, by omega, z2⟩
        refine Ok_b (Ok_and (P_settles (least := 1) (by decide) J1) (E_settles (least := 1) (by decide) J1 X1)) (fun M6 q => ?_)
        obtain ⟨⟨⟨H6, F6⟩, J6, ⟨x6, w6⟩, ⟨o6, b6⟩, t6⟩, X6⟩ := q
        have val := t_K_set1 σ x X1.2.2.2 ht (by rw [kx]; decide)
        have pl := t_sv_pl (least := 1) σ x
        obtain ⟨τ, et⟩ := (t_sv1_in (σ := σ) (y := x) X1.2.2.2).1 inn
        rw [et] at X6 val
        generalize (t_sv 1 σ x).2 = y6 at X6 val pl
        obtain ⟨m, hm⟩ : ∃ m, n_o M6 = m + 1 := ⟨n_o M6 - 1, by have : n_o M6 = τ.length + 1 := X6.2.1.1; omega⟩
        have top : n_w2 M6 m = 91 := by
          have : n_o M6 = τ.length + 1 := X6.2.1.1
          have e : m = τ.length := by omega
          rw [e]
          exact X6.2.1.2.1
        have o16 := n_o1 H6
        have em : M6.2.1 175 16 - (1 : Int32) = Int32.ofNat m := i_of (by rw [i_subc (n := 1) rfl (by omega) (by omega)]; omega) (by omega)
        rw [e_gI H6, Option.bind_some, e_pI H6, Option.bind_some, em]
        obtain ⟨J8, F8, x8, s8⟩ := p_J_pop J6 hm top
        have H8 := J8.1.1.1.1
        have d8 : (mI M6 175 16 (Int32.ofNat m)).2.1 175 13 = M6.2.1 175 13 := mI_ne (Or.inr (by decide))
        have dd := t_dp_1 (σ := τ) (w := 91) (Or.inl rfl)
        rw [e_gI H8, Option.bind_some, e_pI H8, Option.bind_some, d8]
        have X10 := (t_M_pop (v := M6.2.1 175 13 - (1 : Int32)) H6 X6 hm (by
          have h1 := X6.2.2.1.1
          have h2 := X6.2.2.1.2
          rw [i_subc (n := 1) rfl (by omega) (by omega)]
          omega)).1
        obtain ⟨J10, F10, x10, s10, -, -⟩ := p_J_deep (v := M6.2.1 175 13 - (1 : Int32)) J8
        generalize mI (mI M6 175 16 (Int32.ofNat m)) 175 13 (M6.2.1 175 13 - (1 : Int32)) = M10 at J10 F10 x10 s10 X10 ⊢
        have H10 := J10.1.1.1.1
        have s6 := n_Fs F6 (by decide)
        have h10 := J10.1.2.1
        rw [e_gI H10, Option.bind_some, e_pI H10, Option.bind_some, n_next H10]
        have J12 : p_J t a 1 c (n_at M10 (n_x M10 + 1)) := p_J_at J10 (by omega) (by omega)
        have x12 : n_x (n_at M10 (n_x M10 + 1)) = n_x M10 + 1 := n_at_x (by omega)
        have s12 : n_s (n_at M10 (n_x M10 + 1)) = n_s M10 := n_at_s
        have xp : n_x M10 = p := by omega
        have X12 : t_M T t (n_at M10 (n_x M10 + 1)) τ (k_go T x.1, y6.2) := t_Mat X10 (by omega) (by rw [xp]; exact kg)
        generalize n_at M10 (n_x M10 + 1) = M12 at J12 x12 s12 X12 ⊢
        have H12 := J12.1.1.1.1
        rw [e_gC H12, Option.bind_some]
        refine Ok_b (Ok_and (P_settles (least := 3) (by decide) J12) (E_settles (least := 3) (by decide) J12 X12)) (fun M14 q => ?_)
        obtain ⟨⟨⟨H14, F14⟩, J14, ⟨x14, w14⟩, -, -⟩, X14⟩ := q
        have s14 := n_Fs F14 (by decide)
        have fin := ih J14 X14 (t_sv_top (by decide) _ _) (by omega)
        rw [← t_K_set3 τ (k_go T x.1, y6.2) X12.2.2.2] at fin
        have v2 : t_K T (91 :: τ) true y6 = t_K T τ false (k_go T x.1, y6.2) := by
          rw [t_K_end1 (by rw [pl, kx]; decide)]
          unfold s_close
          rw [if_pos (by rw [pl]; exact kx), pl]
          rfl
        rw [val, v2]
        exact fin
    · rw [ec] at e
      have kn : k_kind T x.1 ≠ 93 := by rw [← px]; exact mt k93.1.mpr e
      exact Ok_s ⟨σ, x, X1, rfl, ⟨ht, x1.trans px⟩, fun z => absurd z kn⟩
theorem E_closes {T : gM} {t a c : Nat} {M : gM} {σ : List Int32} {x : sS} (J : p_J t a 1 c M) (X : t_M T t M σ x) : Ok (F_X12_closes (some 175) M) (t_C T t (t_K T σ false x)) := by
  have H := J.1.1.1.1
  delta F_X12_closes F_X12_closes_b0
  rw [e_gO H, Option.bind_some]
  refine Ok_b (Ok_and (P_settles (least := 3) (by decide) J) (E_settles (least := 3) (by decide) J X)) (fun M2 q => ?_)
  obtain ⟨⟨⟨H2, F2⟩, J2, ⟨x2, w2⟩, -, -⟩, X2⟩ := q
  have s2 := n_s1 H2
  rw [t_K_set3 σ x X.2.2.2]
  exact E_closes_L5 _ J2 X2 (t_sv_top (by decide) _ _) (n_fu (by omega))
-- 7b.etest2
/-! whole TESTS of the reference as the document says -/
theorem t_sv_q {least : Int32} {q : Nat} : ∀ (σ : List Int32) (x : sS), t_sv least σ (q, x.2) = ((t_sv least σ x).1, (q, (t_sv least σ x).2.2)) := by
  intro σ
  induction σ with
  | nil => intro x; rfl
  | cons w σ ih =>
    intro x
    by_cases c : n_st w < least
    · rw [t_sv_stop c, t_sv_stop c]
    · rw [t_sv_pop c, t_sv_pop c]
      exact ih (s_push x (t_op w, 0))
theorem t_M_op {T : gM} {t : Nat} {M : gM} {σ : List Int32} {x : sS} {s : Int32} (X : t_M T t M σ x) (h : n_o M < 400) (hs : s = 12 ∨ s = 13) (ht : t_top σ < n_st s) : t_M T t (n_op M s) (s :: σ) x := by
  obtain ⟨X0, ⟨no, sS0⟩, ⟨dp, dp2⟩, W⟩ := X
  obtain ⟨v1, v2⟩ := n_op_w (M := M) (w := s)
  have ed := t_dp_0 (σ := σ) hs
  refine ⟨n_op_X X0, ⟨by rw [n_op_o h, no]; rfl, ?_, ?_⟩, ⟨?_, by omega⟩, ⟨Or.inr (Or.inr ⟨hs, ht⟩), W⟩⟩
  · show n_w2 (n_op M s) σ.length = s
    rw [← no]
    exact v1
  · exact t_S_c (fun j hj => v2 j (by omega)) sS0
  · unfold n_op
    rw [mI_ne (Or.inr (by decide)), mI_ne (Or.inl (by decide)), ed]
    exact dp
theorem E_tested_b76 {T : gM} (B : z_B T) {t a c p : Nat} {l1 s : Int32} {M : gM} {σ : List Int32} {x : sS} {k : Option Nat → Int32 → gM → Option (Int32 × gM)} (hs : (s = 12 ∧ k_kind T x.1 = 281) ∨ (s = 13 ∧ k_kind T x.1 = 282)) (hp : p = n_x M) (px : p = x.1) (hle : p < n_le M p) (ht : t_top σ < 3)
    (hk : ∀ {M1 : gM} {σ2 : List Int32} {y : sS}, p_J t a 0 c M1 → t_M T t M1 σ2 y → p < n_x M1 → n_s M1 = n_s M → Ok (k (some 175) l1 M1) (e_R T t (s_b (s_F T (t_dp σ2) y) (t_K T σ2 false)))) (J : p_J t a 1 c M) (X : t_M T t M σ x) : Ok (F_X12_tested_b76 k (some 175) l1 s M) (e_R T t (t_K T σ false x)) := by
  have H := J.1.1.1.1
  have hx := J.1.2.1
  have s1 := n_s1 H
  have hsB : s = 12 ∨ s = 13 := hs.imp And.left And.left
  have e2 := (n_le_le (M := M) (p := p) (by omega)).2
  have ele : n_le M = n_le T := (n_T X.1.1.1 X.1.1.2).1.2.1.2
  have kw : 260 ≤ k_kind T p := by rw [px]; rcases hs with ⟨_, e⟩ | ⟨_, e⟩ <;> (rw [e]; decide)
  have kg : n_sk T (n_le M p) = k_go T x.1 := by rw [ele, ← px]; exact (k_go_w kw).symm
  delta F_X12_tested_b76
  rw [e_gO H, Option.bind_some, R_passWord H hx.2, Option.bind_some, ← hp]
  have J2 : p_J t a 1 (c + 1) (n_at M (n_le M p)) := p_J_at J (by omega) e2
  have F2 : p_F p_T t M (n_at M (n_le M p)) := p_F_at H (by omega) (by decide)
  have x2 : n_x (n_at M (n_le M p)) = n_le M p := n_at_x (by omega)
  have X2 : t_M T t (n_at M (n_le M p)) σ (k_go T x.1, x.2) := t_Mat X (by omega) kg
  generalize n_at M (n_le M p) = M2 at J2 F2 x2 X2 ⊢
  have H2 := J2.1.1.1.1
  have hst : 1 ≤ (n_st s).toInt := by rcases hsB with e | e <;> rw [e] <;> decide
  rw [R_strength, Option.bind_some, e_gC H2, Option.bind_some]
  refine Ok_b (Ok_and (P_settles hst J2) (E_settles hst J2 X2)) (fun M5 q => ?_)
  obtain ⟨⟨⟨H5, F5⟩, J5, ⟨x5, w5⟩, ⟨o5, -⟩, -⟩, X5⟩ := q
  rw [t_sv_q] at X5
  have h5 := J5.1.2.1
  have s5 := n_s1 H5
  have o1 := n_o1 H5
  have ho : n_o M5 < 400 := by omega
  obtain ⟨J8, F8, x8⟩ := p_J_op (S := p_T) (w := s) (e := 1) (e2 := 0) (c := c) (p_J_less J5 (by omega)) ho (by rcases hsB with h9 | h9 <;> rw [h9] <;> decide) (by rcases hsB with h9 | h9 <;> subst h9 <;> rfl) (by omega) (by decide)
  have top : t_top (t_sv (n_st s) σ x).1 < n_st s := t_sv_top (by rcases hsB with e | e <;> rw [e] <;> decide) _ _
  have X8 := t_M_op X5 ho hsB top
  have H8' : y_HT (mI M5 182 (n_o M5) s) := (y_set (M' := mI M5 182 (n_o M5) s) (S := 2 ^ 47) H5 (i := 182) (k := n_o M5) (by decide) rfl rfl y_mI1 (fun j a hj => y_mI2 hj) rfl (y_full rfl) (show Nat.testBit (2 ^ 47) 47 = true by decide)).1
  have o8' : (mI M5 182 (n_o M5) s).2.1 175 16 = M5.2.1 175 16 := mI_ne (Or.inl (by decide))
  rw [e_gR H5 (w := 182) rfl (by decide), Option.bind_some, e_gI H5, Option.bind_some, e_sI H5 (i := 182) (n := 400) rfl (by omega) (by omega), Option.bind_some, show (M5.2.1 175 16).toNatClampNeg = n_o M5 from rfl, e_gI H8', Option.bind_some, e_pI H8', Option.bind_some, o8', n_inc o1.1 (by omega)]
  have F := p_F_tr F2 (p_F_tr F5 F8)
  have fin := hk J8 X8 (by show p < n_x (n_op M5 s); rw [x8]; omega) (n_Fs F (by decide))
  have W := X.2.2.2
  have W2 := t_sv_wf (least := n_st s) σ x W
  have pl := t_sv_pl (least := n_st s) σ x
  have val : t_K T σ false x = s_b (s_F T (t_dp (s :: (t_sv (n_st s) σ x).1)) (k_go T x.1, (t_sv (n_st s) σ x).2.2)) (t_K T (s :: (t_sv (n_st s) σ x).1) false) := by
    rcases hs with ⟨e, kk⟩ | ⟨e, kk⟩
    · subst e
      rw [t_dp_0 (Or.inl rfl), t_K_set2 σ x W ht]
      have := t_K_and B (σ := (t_sv 2 σ x).1) (y := (t_sv 2 σ x).2) W2 top (by rw [show (t_sv 2 σ x).2.1 = x.1 from pl]; exact kk)
      rw [show (t_sv 2 σ x).2.1 = x.1 from pl] at this
      exact this
    · subst e
      rw [t_dp_0 (Or.inr rfl), t_K_set1 σ x W ht (by rw [kk]; decide)]
      have := t_K_or B (σ := (t_sv 1 σ x).1) (y := (t_sv 1 σ x).2) W2 top (by rw [show (t_sv 1 σ x).2.1 = x.1 from pl]; exact kk)
      rw [show (t_sv 1 σ x).2.1 = x.1 from pl] at this
      exact this
  rw [val]
  exact fin
theorem t_fu1 {s s0 y x p n : Nat} (h : s0 - x + 1 < n + 1) (a : p < y) (b : x ≤ p) (b2 : y ≤ s) (e : s = s0) : s - y + 1 < n := by omega
theorem t_fu2 {s s0 x p n : Nat} (h : s0 - x + 1 < n + 1) (b : x ≤ p) (e : s = s0) : s - p + 0 < n := by omega
theorem E_tested_L12 {T : gM} (B : z_B T) {t a c : Nat} : ∀ (n : Nat) {l1 : Int32} {M : gM} {σ : List Int32} {x : sS} {r0 : s_R}, p_J t a (if l1 = 0 then 1 else 0) c M → t_M T t M σ x → (l1 ≠ 0 → r0 = s_b (s_F T (t_dp σ) x) (t_K T σ false)) → (l1 = 0 → r0 = t_K T σ false x ∧ t_top σ < 3 ∧ (k_kind T x.1 ≠ 281 ∧ k_kind T x.1 ≠ 282) ∧ (k_kind T x.1 = 93 → ¬ (91 : Int32) ∈ σ)) → (n_s M - n_x M + (if l1 = 0 then 0 else 1) < n) → Ok (F_X12_tested_L12 n (some 175) l1 M) (e_R T t r0) := by
  intro n
  induction n with
  | zero => intro l1 M σ x r0 J X h1 h0 h; omega
  | succ n ih =>
    intro l1 M σ x r0 J X h1 h0 h
    show Ok (F_X12_tested_b12 (F_X12_tested_L12 n) (some 175) l1 M) _
    have H := J.1.1.1.1
    have mem := t_S_m X.2.1.2
    have no1 := X.2.1.1
    delta F_X12_tested_b12
    by_cases c1 : l1 = 0
    · rw [if_pos c1] at J
      obtain ⟨e0, ht, ⟨ka, ko⟩, kc⟩ := h0 c1
      have W := X.2.2.2
      have pl := t_sv_pl (least := 1) σ x
      rw [t_K_set1 σ x W ht ka] at e0
      rw [if_pos c1, e_gO H, Option.bind_some]
      refine Ok_b (R_isInside H) (fun v2 z => ?_)
      rcases z with ⟨z, z2⟩ | ⟨z, j, hj, z2⟩
      · subst z
        rw [if_pos rfl]
        have nin : ¬ (91 : Int32) ∈ σ := fun hm => by
          obtain ⟨j, h1, h2⟩ := mem.mp hm
          exact z2 j (by omega) h2
        refine Ok_b (E_settles (least := 1) (by decide) J X) (fun M3 X3 => ?_)
        rw [(t_sv1_in W).2 nin] at e0 X3
        rw [t_K_end0 (by rw [pl]; exact ko)] at e0
        rw [e0]
        exact Ok_s ⟨rfl, X3.1⟩
      · subst z
        rw [if_neg (by decide)]
        have inn : (91 : Int32) ∈ σ := mem.mpr ⟨j, by omega, z2⟩
        obtain ⟨τ, et⟩ := (t_sv1_in (y := x) W).1 inn
        have hx := J.1.2.1
        have s1 := n_s1 H
        obtain ⟨ex, X1⟩ := t_Msee X H hx.2
        have k1 := n_sk_le hx.2
        have H1 : y_HT (n_at M (n_sk M (n_x M))) := n_atH H (by omega)
        have xi : (Int32.ofNat (n_sk M (n_x M))).toInt = ((n_sk M (n_x M) : Nat) : Int) := i_ofNat (by omega)
        rw [R_see H hx.2, Option.bind_some]
        dsimp only
        rw [e_gI H1, Option.bind_some, n_at8, e_gC H1, Option.bind_some, R_fails H1, Option.bind_some]
        dsimp only
        rw [if_pos (Or.inl rfl)]
        rw [et, t_K_end1 (by rw [pl]; exact ko)] at e0
        unfold s_close at e0
        rw [if_neg (by rw [pl]; exact fun z => kc z inn), pl] at e0
        rw [e0, ← ex] 
        exact Ok_s ⟨rfl, n_f_0 (by rw [n_atk (by decide)]; exact X.1.2.2.1.1) xi (by omega) rfl (by decide)⟩
    · rw [if_neg c1] at J h
      rw [h1 c1, if_neg c1, e_gO H, Option.bind_some]
      refine Ok_b (Ok_and (P_fact J) (E_fact B J X)) (fun y z => ?_)
      obtain ⟨v12, M13⟩ := y
      obtain ⟨⟨⟨H13, F13⟩, P⟩, E⟩ := z
      dsimp only at P H13 F13 ⊢
      rcases E with ⟨h5, e, e5, g5⟩ | ⟨h5, σ3, z3, X13, e5⟩
      · dsimp only at h5 g5
        rw [if_pos h5, e5]
        exact Ok_s ⟨rfl, g5⟩
      dsimp only at h5 X13
      subst h5
      rcases P with ⟨h5, _⟩ | ⟨_, J13, x13⟩
      · exact absurd h5 (by decide)
      rw [e5, if_neg (by decide), e_gC H13, Option.bind_some]
      refine Ok_b (Ok_and (P_closes J13) (E_closes J13 X13)) (fun M15 q => ?_)
      obtain ⟨⟨⟨H15, F15⟩, J15, x15⟩, σ4, z4, X15, e15, ⟨t15, xx15⟩, in15⟩ := q
      have F := p_F_tr F13 F15
      have sF := n_Fs F (by decide)
      have hx := J15.1.2.1
      have s1 := n_s1 H15
      obtain ⟨p, hp⟩ : ∃ p, p = n_sk M15 (n_x M15) := ⟨_, rfl⟩
      obtain ⟨ex, X1⟩ := t_Msee X15 H15 hx.2
      have px : p = z4.1 := hp.trans ex
      rw [← px] at X1
      have k1 := n_sk_le hx.2
      rw [← hp] at k1
      have J1 : p_J t a 1 c (n_at M15 p) := p_J_at J15 (by omega) (by omega)
      have H1 := J1.1.1.1.1
      have x1 : n_x (n_at M15 p) = p := n_at_x (by omega)
      have s2 : n_s (n_at M15 p) = n_s M15 := n_at_s
      have l1' : n_le (n_at M15 p) p = n_le M15 p := n_at_le
      have ew : n_w M15 = n_w T := (n_T X15.1.1.1 X15.1.1.2).2.1.1
      rw [e15]
      rw [e_gC H15, Option.bind_some, R_isWord H15 hx.2, ← hp, Option.bind_some]
      dsimp only
      have b76 : ∀ {s : Int32}, ((s = 12 ∧ k_kind T z4.1 = 281) ∨ (s = 13 ∧ k_kind T z4.1 = 282)) → p < n_le M15 p → Ok (F_X12_tested_b76 (F_X12_tested_L12 n) (some 175) 1 s (n_at M15 p)) (e_R T t (t_K T σ4 false z4)) := by
        intro s hs hle
        refine E_tested_b76 B (p := p) hs x1.symm px (by rw [l1']; exact hle) t15 (fun J9 X9 a1 a2 => ih (l1 := 1) (by rw [if_neg (by decide)]; exact J9) X9 (fun _ => rfl) (fun z => absurd z (by decide)) ?_) J1 X1
        rw [if_neg (by decide)]
        exact t_fu1 h a1 (Nat.le_trans x13 (Nat.le_trans x15 k1.1)) J9.1.2.1.2 (a2.trans (s2.trans sF))
      by_cases ca : n_w M15 p 6385252 = true
      · have kk : k_kind T z4.1 = 281 := by rw [← px]; exact n_w_and.mp (by rw [← ew]; exact ca)
        rw [if_pos ca, if_neg (by decide)]
        delta F_X12_tested_b49 F_X12_tested_b54
        rw [if_neg (by decide), e_gO H1, Option.bind_some, R_isW2 H15 hx.2 hp, Option.bind_some]
        dsimp only
        rw [if_pos ca, if_neg (by decide)]
        exact b76 (Or.inl ⟨rfl, kk⟩) (n_w_le ca)
      · have ka : k_kind T z4.1 ≠ 281 := by
          rw [← px]
          exact fun z => ca (by rw [ew]; exact n_w_and.mpr z)
        rw [if_neg ca, if_pos rfl, e_gC H1, Option.bind_some, R_isW2 H15 hx.2 hp, Option.bind_some]
        dsimp only
        by_cases co : n_w M15 p 28530 = true
        · have kk : k_kind T z4.1 = 282 := by rw [← px]; exact n_w_or.mp (by rw [← ew]; exact co)
          rw [if_pos co, if_neg (by decide)]
          delta F_X12_tested_b49 F_X12_tested_b54
          rw [if_neg (by decide), e_gO H1, Option.bind_some, R_isW2 H15 hx.2 hp, Option.bind_some]
          dsimp only
          rw [if_neg ca, if_pos rfl]
          exact b76 (Or.inr ⟨rfl, kk⟩) (n_w_le co)
        · have ko : k_kind T z4.1 ≠ 282 := by
            rw [← px]
            exact fun z => co (by rw [ew]; exact n_w_or.mpr z)
          rw [if_neg co, if_pos rfl]
          delta F_X12_tested_b54
          rw [if_pos rfl]
          refine ih (l1 := 0) (by rw [if_pos rfl]; exact J1) X1 (fun z => absurd rfl z) (fun _ => ⟨rfl, t15, ⟨ka, ko⟩, in15⟩) ?_
          rw [if_pos rfl, x1]
          exact t_fu2 h (Nat.le_trans x13 (Nat.le_trans x15 k1.1)) (s2.trans sF)
theorem E_tested {T : gM} (B : z_B T) {t a c : Nat} {M : gM} {x : sS} (I : p_I t a 0 c M) (X : r_X T t M x) : Ok (F_X12_tested (some 175) M) (e_R T t (s_J T 0 0 x)) := by
  have H := I.1.1.1
  delta F_X12_tested F_X12_tested_b0
  rw [e_pI H, Option.bind_some]
  obtain ⟨H1, f1⟩ := y_set (M' := mI M 175 16 (0 : Int32)) (S := 2 ^ 16) H (i := 175) (k := 16) (by decide) rfl rfl y_mI1 (fun j a hj => y_mI2 hj) rfl (y_in (lo := 0) (hi := 400) rfl (by decide)) (by decide)
  have X1 := r_Xw (v := (0 : Int32)) X (i := 175) (k := 16) (Or.inl ⟨rfl, Or.inr rfl⟩)
  have o1 : n_o (mI M 175 16 (0 : Int32)) = 0 := by
    show ((mI M 175 16 (0 : Int32)).2.1 175 16).toInt.toNat = 0
    rw [y_mI1]
    rfl
  generalize mI M 175 16 (0 : Int32) = M1 at H1 f1 o1 X1 ⊢
  have x1 := n_fx f1 (by decide)
  have J1 : p_J t a 0 c M1 := by
    unfold p_J
    rw [o1]
    exact ⟨p_I_of I H1 f1 (by decide) ⟨by rw [x1, Nat.zero_add]; exact I.2.1.1, by rw [x1]; exact I.2.1.2⟩ (by rw [n_fm f1 (by decide)]; exact Nat.le_refl _), fun k hk => absurd hk (Nat.not_lt_zero _)⟩
  rw [e_pI H1, Option.bind_some]
  obtain ⟨J2, F2, x2, s2, -, o2⟩ := p_J_deep (v := (0 : Int32)) J1
  have X2 := r_Xw (v := (0 : Int32)) X1 (i := 175) (k := 13) (Or.inl ⟨rfl, Or.inl rfl⟩)
  have s3 := n_s1 J2.1.1.1.1
  refine E_tested_L12 B _ (l1 := 1) (σ := []) (x := x) (by rw [if_neg (by decide)]; exact J2) ⟨X2, ⟨by rw [o2, o1]; rfl, trivial⟩, ⟨by rw [y_mI1]; rfl, Nat.zero_le _⟩, trivial⟩ (fun _ => t_K_J) (fun z => absurd z (by decide)) ?_
  rw [if_neg (by decide)]
  have : g_fuel = 1000000000 := rfl
  omega
-- 7c.efade
/-! clauses of the reference as the document says -/
/-- what the place in a RULE does not look at, at large -/
theorem r_Xfr {T : gM} {t S : Nat} {M M' : gM} {x : sS} (X : r_X T t M x) (f : y_Fr S M M') (h : Nat.land S (2 ^ 1 + 2 ^ 8 + 2 ^ 9 + 2 ^ 12 + 2 ^ 41 + 2 ^ 42 + 2 ^ 43) = 0) : r_X T t M' x := by
  refine ⟨⟨(funext (fun q => y_fa (i := 176) f (by decide) (y_dis h (by decide)) q)).trans X.1.1, (n_fs f (y_dis h (by decide))).trans X.1.2⟩, ?_, ⟨by rw [y_fk (i := 175) (k := 9) f (y_dis h (by decide))]; exact X.2.2.1.1, ?_⟩, ?_, ?_⟩
  · rw [n_fx f (y_dis h (by decide))]
    exact X.2.1
  · rw [n_fm f (y_dis h (by decide))]
    exact X.2.2.1.2
  · rw [n_fl (t := t) f (y_dis h (by decide))]
    exact X.2.2.2.1
  · have : y_sn M' t = y_sn M t := y_snf f (y_dis h (by decide)) t
    rw [this]
    exact X.2.2.2.2
def s_fd (T : gM) (x : sS) : s_R := s_b (s_sum T (k_go T x.1, x.2)) (fun y => if k_kind T y.1 = 279 then s_J T 0 0 (k_go T y.1, y.2) else .inr y)
def s_c1 (T : gM) (cl : Nat) (x : sS) : s_R := if k_kind T x.1 ≠ 278 then .inl (1 + 8 * x.1 + 0) else if 12 < cl then .inl (1 + 8 * x.1 + 4) else s_fd T x
theorem n_w_if {T : gM} {p : Nat} : n_w T p 26982 = true ↔ k_kind T p = 279 := w_iff (i := 18) (by decide) (by decide)
theorem n_w_fade {T : gM} {p : Nat} : n_w T p 1717658725 = true ↔ k_kind T p = 278 := w_iff (i := 17) (by decide) (by decide)
theorem E_fade_b110 {T : gM} {t c q : Nat} {l1 : Int32} {M : gM} {x : sS} (H : y_HT M) (ht : t ≤ 5) (e11 : (M.2.1 175 11).toInt = (t : Int)) (hq : q = 48 * t + 4 * c) (hl : l1.toInt = (q : Int)) (hc : c < 12) (hcc : n_cc M t = c) (X : r_X T t M x) : Ok (F_X12_isFadeHere_b110 (some 175) l1 M) (e_R T t (.inr x)) := by
  have ct : (M.2.1 175 11).toNatClampNeg = t := i_cl e11
  have z3 : (3 : Int32).toInt = 3 := rfl
  have a1 := i_addc (x := l1) (c := (3 : Int32)) z3 (by omega) (by omega)
  have c3 : (l1 + (3 : Int32)).toNatClampNeg = q + 3 := i_cl (by omega)
  have ll := n_l1 H t
  have cc1 := n_cc1 H t
  delta F_X12_isFadeHere_b110
  rw [e_gR H (w := 179) rfl (by decide), Option.bind_some, e_gR H (w := 178) rfl (by decide), Option.bind_some, e_gI H, Option.bind_some, e_aI H (t := 20) (i := 178) (n := 7) rfl (by decide) (by omega) (by omega), Option.bind_some, ct, e_sI H (i := 179) (n := 288) rfl (by omega) (by omega), Option.bind_some, c3]
  obtain ⟨H5, f5⟩ := y_set (M' := mI M 179 (q + 3) (M.2.1 178 t)) (S := 2 ^ 44) H (i := 179) (k := q + 3) (by decide) rfl rfl y_mI1 (fun j a hj => y_mI2 hj) rfl (y_in (lo := -1) (hi := 400) rfl (by omega)) (show Nat.testBit (2 ^ 44) 44 = true by decide)
  generalize mI M 179 (q + 3) (M.2.1 178 t) = M5 at H5 f5 ⊢
  have e11' := y_fk (i := 175) (k := 11) f5 (by decide)
  have e180 : ∀ k, M5.2.1 180 k = M.2.1 180 k := fun k => y_fa (i := 180) f5 (by decide) (by decide) k
  have inc : M5.2.1 180 t + (1 : Int32) = Int32.ofNat (c + 1) := n_inc (by rw [e180, cc1.1, hcc]) (by omega)
  rw [e_gR H5 (w := 180) rfl (by decide), Option.bind_some, e_gI H5, Option.bind_some, e11', e_aI H5 (t := 20) (i := 180) (n := 6) rfl (by decide) (by omega) (by omega), Option.bind_some, ct, e_sI H5 (i := 180) (n := 6) rfl (by omega) (by omega), Option.bind_some, ct, inc]
  have ci : (Int32.ofNat (c + 1)).toInt = ((c + 1 : Nat) : Int) := i_ofNat (by omega)
  obtain ⟨H9, f9⟩ := y_set (M' := mI M5 180 t (Int32.ofNat (c + 1))) (S := 2 ^ 45) H5 (i := 180) (k := t) (by decide) rfl rfl y_mI1 (fun j a hj => y_mI2 hj) rfl (y_in (lo := 0) (hi := 12) rfl (by omega)) (show Nat.testBit (2 ^ 45) 45 = true by decide)
  exact Ok_s ⟨rfl, r_Xfr (r_Xfr X f5 (by decide)) f9 (by decide)⟩
theorem E_isFadeHere {T : gM} (B : z_B T) {t c : Nat} {M : gM} {x : sS} (K : p_K t c M) (hc : c < 12) (X : r_X T t M x) (xx : n_x M = x.1) (kk : k_kind T x.1 = 278) : Ok (F_X12_isFadeHere (some 175) M) (e_R T t (s_fd T x)) := by
  obtain ⟨⟨⟨H, ht⟩, e11⟩, hx, hcc, C0⟩ := K
  have s1 := n_s1 H
  have cc1 := n_cc1 H t
  have e2 := n_le_le (M := M) (p := n_x M) hx.2
  have ele : n_le M = n_le T := (n_T X.1.1 X.1.2).1.2.1.2
  have kg : n_sk T (n_le M (n_x M)) = k_go T x.1 := by rw [ele, xx]; exact (k_go_w (by omega)).symm
  delta F_X12_isFadeHere F_X12_isFadeHere_b0
  rw [e_gO H, Option.bind_some, R_passWord H hx.2, Option.bind_some]
  have I0 : p_I t (n_l M t) 0 0 M := ⟨⟨⟨H, ht⟩, e11⟩, ⟨hx.1, hx.2⟩, ⟨Nat.le_refl _, by rw [Nat.sub_self]; rfl⟩, Nat.zero_le _⟩
  have I2 : p_I t (n_l M t) 0 0 (n_at M (n_le M (n_x M))) := p_I_at I0 (by omega) e2.2
  have X2 : r_X T t (n_at M (n_le M (n_x M))) (k_go T x.1, x.2) := r_Xat X (by omega) kg
  have c2 : n_cc (n_at M (n_le M (n_x M))) t = c := by
    unfold n_cc
    rw [n_ata (by decide)]
    exact hcc
  generalize n_at M (n_le M (n_x M)) = M2 at I2 X2 c2 ⊢
  have H2 := I2.1.1.1
  have t2 := I2.1.2
  have ct2 : (M2.2.1 175 11).toNatClampNeg = t := i_cl t2
  have ll2 := n_l1 H2 t
  have cc2 := n_cc1 H2 t
  have a1 := i_mulL (c := (48 : Int32)) (x := M2.2.1 175 11) (n := 48) rfl (by omega) (by omega)
  have a2 := i_mulL (c := (4 : Int32)) (x := M2.2.1 180 t) (n := 4) rfl (by omega) (by omega)
  have a3 := i_add (x := (48 : Int32) * M2.2.1 175 11) (y := (4 : Int32) * M2.2.1 180 t) (by omega) (by omega)
  rw [e_gI H2, Option.bind_some, e_gR H2 (w := 180) rfl (by decide), Option.bind_some, Option.bind_some, e_aI H2 (t := 20) (i := 180) (n := 6) rfl (by decide) (by omega) (by omega), Option.bind_some, ct2]
  obtain ⟨q, hq⟩ : ∃ q, q = 48 * t + 4 * c := ⟨_, rfl⟩
  obtain ⟨l, hl⟩ : ∃ l, l = (48 : Int32) * M2.2.1 175 11 + (4 : Int32) * M2.2.1 180 t := ⟨_, rfl⟩
  rw [← hl] at a3 ⊢
  have lq : l.toInt = (q : Int) := by omega
  have lc : l.toNatClampNeg = q := i_cl lq
  have b1 := i_addc (x := l) (c := (1 : Int32)) (n := 1) rfl (by omega) (by omega)
  have b2 := i_addc (x := l) (c := (2 : Int32)) (n := 2) rfl (by omega) (by omega)
  have lc1 : (l + (1 : Int32)).toNatClampNeg = q + 1 := i_cl (by omega)
  have lc2 : (l + (2 : Int32)).toNatClampNeg = q + 2 := i_cl (by omega)
  rw [e_gR H2 (w := 179) rfl (by decide), Option.bind_some, e_gR H2 (w := 178) rfl (by decide), Option.bind_some, Option.bind_some, e_aI H2 (t := 20) (i := 178) (n := 7) rfl (by decide) (by omega) (by omega), Option.bind_some, ct2, e_sI H2 (i := 179) (n := 288) rfl (by omega) (by omega), Option.bind_some, lc]
  -- a mark leaves all that is looked at
  have mk : ∀ {N : gM} {y : sS} {j : Nat} {v : Int32} {d : Nat}, p_I t (n_l M t) d 0 N → r_X T t N y → n_cc N t = c → q ≤ j → j < 288 → (-1 ≤ v.toInt ∧ v.toInt ≤ 400) → p_I t (n_l M t) d 0 (mI N 179 j v) ∧ r_X T t (mI N 179 j v) y ∧ n_cc (mI N 179 j v) t = c := by
    intro N y j v d IN XN cN h1 h2 h3
    obtain ⟨H1, f1⟩ := y_set (M' := mI N 179 j v) (S := 2 ^ 44) IN.1.1.1 (i := 179) (k := j) (by decide) rfl rfl y_mI1 (fun j a hj => y_mI2 hj) rfl h3 (show Nat.testBit (2 ^ 44) 44 = true by decide)
    refine ⟨(p_mark (S := 0) IN h1 h2 h3).1, r_Xfr XN f1 (by decide), ?_⟩
    unfold n_cc
    rw [mI_ne (Or.inl (by decide))]
    exact cN
  obtain ⟨I11, X11, c11⟩ := mk (j := q) (v := M2.2.1 178 t) I2 X2 c2 (Nat.le_refl _) (by omega) (by omega)
  generalize mI M2 179 q (M2.2.1 178 t) = M11 at I11 X11 c11 ⊢
  have H11 := I11.1.1.1
  rw [e_gC H11, Option.bind_some]
  unfold s_fd
  refine Ok_b (Ok_and (P_sum I11) (E_sum B I11 X11)) (fun y z => ?_)
  obtain ⟨v13, M14⟩ := y
  obtain ⟨⟨⟨H14, F14⟩, P⟩, E⟩ := z
  dsimp only at P E H14 F14 ⊢
  generalize s_sum T (k_go T x.1, x.2) = r at E ⊢
  cases r with
  | inl e =>
    obtain ⟨h5, g5⟩ := E
    dsimp only at h5 g5
    subst h5
    rw [if_pos rfl]
    exact Ok_s ⟨rfl, g5⟩
  | inr y =>
  obtain ⟨h5, X14⟩ := E
  dsimp only at h5 X14
  subst h5
  rcases P with ⟨h5, _⟩ | ⟨_, I14, x14⟩
  · exact absurd h5 (by decide)
  have c14 : n_cc M14 t = c := by
    unfold n_cc
    rw [y_fa (i := 180) F14.1 (by decide) (by decide) t]
    exact c11
  have t14 := I14.1.2
  have ct14 : (M14.2.1 175 11).toNatClampNeg = t := i_cl t14
  have ll14 := n_l1 H14 t
  rw [if_neg (by decide), e_gR H14 (w := 179) rfl (by decide), Option.bind_some, e_gR H14 (w := 178) rfl (by decide), Option.bind_some, e_gI H14, Option.bind_some, e_aI H14 (t := 20) (i := 178) (n := 7) rfl (by decide) (by omega) (by omega), Option.bind_some, ct14, e_sI H14 (i := 179) (n := 288) rfl (by omega) (by omega), Option.bind_some, lc1]
  obtain ⟨I19, X19, c19⟩ := mk (j := q + 1) (v := M14.2.1 178 t) I14 X14 c14 (by omega) (by omega) (by omega)
  generalize mI M14 179 (q + 1) (M14.2.1 178 t) = M19 at I19 X19 c19 ⊢
  have H19 := I19.1.1.1
  rw [e_gR H19 (w := 179) rfl (by decide), Option.bind_some, e_sI H19 (i := 179) (n := 288) rfl (by omega) (by omega), Option.bind_some, lc2]
  obtain ⟨I21, X21, c21⟩ := mk (j := q + 2) (v := (-1 : Int32)) I19 X19 c19 (by omega) (by omega) (by decide)
  generalize mI M19 179 (q + 2) (-1 : Int32) = M21 at I21 X21 c21 ⊢
  have H21 := I21.1.1.1
  have h21 := I21.2.1
  have s21 := n_s1 H21
  have k21 := n_sk_le h21.2
  obtain ⟨ex, Xs⟩ := r_Xsee X21 H21 h21.2
  obtain ⟨p, hp⟩ : ∃ p, p = n_sk M21 (n_x M21) := ⟨_, rfl⟩
  have px : p = y.1 := hp.trans ex
  have n21 := n_T X21.1.1 X21.1.2
  have ew : n_w M21 = n_w T := n21.2.1.1
  have el : n_le M21 = n_le T := n21.1.2.1.2
  rw [← hp] at k21
  rw [e_gC H21, Option.bind_some, R_takesWord H21 h21.2, Option.bind_some, ← hp]
  by_cases cw : n_w M21 p 26982 = true
  · have k9 : k_kind T y.1 = 279 := by rw [← px]; exact n_w_if.mp (by rw [← ew]; exact cw)
    rw [if_pos cw]
    dsimp only
    have e9 := n_le_le (M := M21) (p := p) (by omega)
    have I24 : p_I t (n_l M t) (0 + 1) 0 (n_at M21 (n_le M21 p)) := p_I_at I21 (by omega) e9.2
    have X24 : r_X T t (n_at M21 (n_le M21 p)) (k_go T y.1, y.2) := r_Xat X21 (by omega) (by rw [el, px]; exact (k_go_w (by omega)).symm)
    have c24 : n_cc (n_at M21 (n_le M21 p)) t = c := by
      rw [n_c9]
      exact c21
    generalize n_at M21 (n_le M21 p) = M24 at I24 X24 c24 ⊢
    have H24 := I24.1.1.1
    have t24 := I24.1.2
    have ct24 : (M24.2.1 175 11).toNatClampNeg = t := i_cl t24
    have ll24 := n_l1 H24 t
    rw [if_neg (by decide), e_gR H24 (w := 179) rfl (by decide), Option.bind_some, e_gR H24 (w := 178) rfl (by decide), Option.bind_some, e_gI H24, Option.bind_some, e_aI H24 (t := 20) (i := 178) (n := 7) rfl (by decide) (by omega) (by omega), Option.bind_some, ct24, e_sI H24 (i := 179) (n := 288) rfl (by omega) (by omega), Option.bind_some, lc2]
    obtain ⟨I29, X29, c29⟩ := mk (j := q + 2) (v := M24.2.1 178 t) I24 X24 c24 (by omega) (by omega) (by omega)
    generalize mI M24 179 (q + 2) (M24.2.1 178 t) = M29 at I29 X29 c29 ⊢
    have H29 := I29.1.1.1
    have J29 : p_I t (n_l M29 t) 0 0 M29 := ⟨I29.1, ⟨I29.2.1.1, I29.2.1.2⟩, ⟨Nat.le_refl _, by rw [Nat.sub_self]; rfl⟩, Nat.zero_le _⟩
    rw [e_gC H29, Option.bind_some]
    show Ok _ (e_R T t (if k_kind T y.1 = 279 then s_J T 0 0 (k_go T y.1, y.2) else .inr y))
    rw [if_pos k9]
    refine Ok_b (Ok_and (P_tested J29) (E_tested B J29 X29)) (fun y2 z => ?_)
    obtain ⟨v31, M32⟩ := y2
    obtain ⟨⟨⟨H32, F32⟩, P⟩, E⟩ := z
    dsimp only at P E H32 F32 ⊢
    generalize s_J T 0 0 (k_go T y.1, y.2) = r at E ⊢
    cases r with
    | inl e =>
      obtain ⟨h5, g5⟩ := E
      dsimp only at h5 g5
      subst h5
      rw [if_pos rfl]
      exact Ok_s ⟨rfl, g5⟩
    | inr y3 =>
    obtain ⟨h5, X32⟩ := E
    dsimp only at h5 X32
    subst h5
    rcases P with ⟨h5, _⟩ | ⟨_, I32, x32⟩
    · exact absurd h5 (by decide)
    rw [if_neg (by decide)]
    have c32 : n_cc M32 t = c := by
      unfold n_cc
      rw [y_fa (i := 180) F32.1 (by decide) (by decide) t]
      exact c29
    exact E_fade_b110 H32 ht I32.1.2 hq lq hc c32 X32
  · have k9 : ¬ k_kind T y.1 = 279 := by
      rw [← px]
      exact fun z => cw (by rw [ew]; exact n_w_if.mpr z)
    rw [if_neg cw]
    dsimp only
    show Ok _ (e_R T t (if k_kind T y.1 = 279 then s_J T 0 0 (k_go T y.1, y.2) else .inr y))
    rw [if_neg k9, if_pos rfl]
    rw [← px] at Xs
    have I24 : p_I t (n_l M t) (0 + 1) 0 (n_at M21 p) := p_I_at I21 (by omega) (by omega)
    exact E_fade_b110 I24.1.1.1 ht I24.1.2 hq lq hc (by rw [n_c9]; exact c21) Xs
-- 7d.erule
/-! the whole text, by the reference -/
theorem k_256 {T : gM} (B : z_B T) {p : Nat} : k_kind T p = 256 ↔ n_s T ≤ p := by
  constructor
  · intro h
    unfold k_kind at h
    by_cases c0 : n_s T ≤ p
    · exact c0
    rw [if_neg c0] at h
    by_cases cL : n_L T p = true
    · rw [if_pos cL] at h
      have := k_w_r (T := T) (p := p)
      omega
    rw [if_neg cL] at h
    by_cases cD : n_D T p = true
    · rw [if_pos cD] at h
      omega
    rw [if_neg cD] at h
    by_cases c2 : k_two T p = true
    · rw [if_pos c2] at h
      split at h <;> omega
    rw [if_neg c2, n_ca_r B (by omega)] at h
    have := B.1 p
    split at h <;> omega
  · intro h
    unfold k_kind
    rw [if_pos h]
theorem n_c_end {T : gM} (B : z_B T) {p : Nat} : n_c T p = -1 ↔ n_s T ≤ p := by
  have z : (-1 : Int32).toInt = -1 := rfl
  unfold n_c
  by_cases c : p < n_s T
  · rw [if_pos c]
    refine ⟨fun h => ?_, fun h => by omega⟩
    have h2 := congrArg Int32.toInt h
    rw [i_and255 (B.1 p).1 (B.1 p).2] at h2
    have := B.1 p
    split at h2 <;> omega
  · rw [if_neg c]
    exact ⟨fun _ => by omega, fun _ => rfl⟩
/-- a clause and its marks, or the clause alone -/
theorem s_c1_cl {T : gM} {cl : Nat} {x : sS} : s_c1 T cl x = (match s_cl T cl x with | .inl e => .inl e | .inr (y, _) => .inr y) := by
  unfold s_c1 s_cl
  by_cases c1 : k_kind T x.1 ≠ 278
  · rw [if_pos c1, if_pos c1]
  rw [if_neg c1, if_neg c1]
  by_cases c2 : 12 < cl
  · rw [if_pos c2, if_pos c2]
  rw [if_neg c2, if_neg c2]
  unfold s_fd
  cases s_sum T (k_go T x.1, x.2) with
  | inl e => rfl
  | inr y =>
    show (if k_kind T y.1 = 279 then s_J T 0 0 (k_go T y.1, y.2) else .inr y) = _
    dsimp only
    by_cases c3 : k_kind T y.1 = 279
    · rw [if_pos c3, if_pos c3]
      cases s_J T 0 0 (k_go T y.1, y.2) with
      | inl e => rfl
      | inr z => rfl
    · rw [if_neg c3, if_neg c3]
theorem E_clauseHere {T : gM} (B : z_B T) {t c : Nat} {M : gM} {x : sS} (N : p_N t c M) (X : r_X T t M x) : Ok (F_X12_clauseHere (some 175) M) (fun y => e_R T t (s_c1 T (c + 1) x) y ∧ (y.1 = 1 → (y.2.2.1 175 14).toInt = ((c + 1 : Nat) : Int))) := by
  obtain ⟨K, hl, hc⟩ := N
  have H := K.1.1.1
  have ht := K.1.1.2
  have hx := K.2.1
  have s1 := n_s1 H
  have k1 := n_sk_le hx.2
  obtain ⟨p, hp⟩ : ∃ p, p = n_sk M (n_x M) := ⟨_, rfl⟩
  obtain ⟨ex, X3⟩ := r_Xsee X H hx.2
  have px : p = x.1 := hp.trans ex
  rw [← px] at X3
  rw [← hp] at k1
  obtain ⟨H3, f3⟩ := n_at_set (p := p) H (by omega)
  have x3 : n_x (n_at M p) = p := n_at_x (by omega)
  have K3 : p_K t c (n_at M p) := p_K_of K H3 f3 (by decide) (by omega)
  have v4 : (n_at M p).2.1 175 8 = Int32.ofNat p := n_at8
  have xi : (Int32.ofNat p).toInt = (p : Int) := i_ofNat (by omega)
  have v14 : (n_at M p).2.1 175 14 = M.2.1 175 14 := n_atk (by decide)
  have e11 := K3.1.2
  have ew : n_w M = n_w T := (n_T X.1.1 X.1.2).2.1.1
  delta F_X12_clauseHere F_X12_clauseHere_b0
  rw [e_gO H, Option.bind_some, R_see H hx.2, ← hp, Option.bind_some]
  dsimp only
  rw [e_gI H3, Option.bind_some, e_gI H3, Option.bind_some, v4]
  have z6 : (6 : Int32).toInt = 6 := rfl
  refine Ok_e (fun e => by have := i_eq e; omega) ?_
  delta F_X12_clauseHere_b24
  rw [if_pos rfl, e_gO H3, Option.bind_some, R_isW2 H hx.2 hp, Option.bind_some]
  dsimp only
  generalize n_at M p = M3 at H3 x3 K3 v14 e11 X3 ⊢
  have bad : ∀ {k : Int32} {d : Nat}, k.toInt = (d : Int) → d ≤ 7 → Ok ((F_X12_fails (some 175) k (Int32.ofNat p) M3).bind fun (v2, M4) => if v2 = 0 ∨ v2 = 1 then some (v2, M4) else none) (fun y => e_R T t (.inl (1 + 8 * x.1 + d)) y ∧ (y.1 = 1 → (y.2.2.1 175 14).toInt = ((c + 1 : Nat) : Int))) := by
    intro k d hk hd
    rw [R_fails H3, Option.bind_some]
    dsimp only
    rw [if_pos (Or.inl rfl), ← px]
    exact Ok_s ⟨⟨rfl, n_f_0 X3.2.2.1.1 xi (by omega) hk hd⟩, fun z => absurd z (by show ¬ (0 : Int32) = 1; decide)⟩
  unfold s_c1
  by_cases cw : n_w M p 1717658725 = true
  · have kk : k_kind T x.1 = 278 := by rw [← px]; exact n_w_fade.mp (by rw [← ew]; exact cw)
    rw [if_pos cw, if_neg (by decide), if_neg (by rw [kk]; decide)]
    delta F_X12_clauseHere_b56 F_X12_clauseHere_b71
    rw [e_gI H3, Option.bind_some, if_pos rfl]
    have z12 : (12 : Int32).toInt = 12 := rfl
    have hl3 : (M3.2.1 175 14).toInt = (c : Int) := by rw [v14]; exact hl
    by_cases c12 : M3.2.1 175 14 = 12
    · have : c = 12 := by rw [c12] at hl3; omega
      rw [if_pos c12, if_pos (by omega), e_gO H3, Option.bind_some]
      exact bad rfl (by decide)
    · have : c ≠ 12 := fun z => c12 (Int32.toInt_inj.mp (by omega))
      rw [if_neg c12, if_neg (by omega), Option.bind_some, e_pI H3, Option.bind_some, n_inc hl3 (by omega)]
      obtain ⟨H2, f2⟩ := y_set (M' := mI M3 175 14 (Int32.ofNat (c + 1))) (S := 2 ^ 14) H3 (i := 175) (k := 14) (by decide) rfl rfl y_mI1 (fun j a hj => y_mI2 hj) rfl (y_full rfl) (by decide)
      have w14 : (mI M3 175 14 (Int32.ofNat (c + 1))).2.1 175 14 = Int32.ofNat (c + 1) := y_mI1
      generalize mI M3 175 14 (Int32.ofNat (c + 1)) = M2 at H2 f2 w14 ⊢
      have x2 := n_fx f2 (by decide)
      have K2 : p_K t c M2 := p_K_of K3 H2 f2 (by decide) (by rw [x2]; exact K3.2.1)
      have X2 := r_Xfr X3 f2 (by decide)
      rw [if_pos rfl, e_gO H2, Option.bind_some]
      refine Ok_b (Ok_and (P_isFadeHere K2 (by omega)) (E_isFadeHere B K2 (by omega) X2 (by rw [x2, x3]; exact px) kk)) (fun y z => ?_)
      obtain ⟨v, M5⟩ := y
      obtain ⟨z, E⟩ := z
      refine Ok_t ?_ (Ok_s ⟨E, fun _ => ?_⟩)
      · rcases z.2 with z | z
        · exact Or.inl z.1
        · exact Or.inr z.1
      · show (M5.2.1 175 14).toInt = _
        rw [y_fk (i := 175) (k := 14) z.1.2.1 (by decide), w14, i_ofNat (by omega)]
  · have kk : k_kind T x.1 ≠ 278 := by
      rw [← px]
      exact fun z => cw (by rw [ew]; exact n_w_fade.mpr z)
    rw [if_neg cw, if_pos rfl, if_pos kk]
    delta F_X12_clauseHere_b49
    rw [e_gO H3, Option.bind_some]
    exact bad rfl (by decide)
/-- the whole text is read: a RULE or a FAULT; the tape is empty -/
def e_Z {α : Type} (r : Nat ⊕ α) : Int32 × gM → Prop := fun y => y.2.2.1 175 1 = 0 ∧ (match r with | .inl e => y.1 = 0 ∧ (y.2.2.1 175 9).toInt = (e : Int) | .inr _ => y.1 = 1)
theorem E_rd_b88 {α : Type} {r : Nat ⊕ α} {M : gM} (H : y_HT M) (h : match r with | .inl e => (M.2.1 175 9).toInt = (e : Int) ∧ M.2.1 175 9 ≠ 0 | .inr _ => M.2.1 175 9 = 0) : Ok (F_X12_readsAll_b88 (some 175) M) (e_Z r) := by
  delta F_X12_readsAll_b88
  rw [e_pI H, Option.bind_some]
  have H1 : y_HT (mI M 175 1 (0 : Int32)) := (y_set (M' := mI M 175 1 (0 : Int32)) (S := 2 ^ 1) H (i := 175) (k := 1) (by decide) rfl rfl y_mI1 (fun j a hj => y_mI2 hj) rfl (y_in (lo := 0) (hi := 400) rfl (by decide)) (by decide)).1
  have w9 : (mI M 175 1 (0 : Int32)).2.1 175 9 = M.2.1 175 9 := mI_ne (Or.inr (by decide))
  have w1 : (mI M 175 1 (0 : Int32)).2.1 175 1 = 0 := y_mI1
  rw [e_gI H1, Option.bind_some, w9]
  cases r with
  | inl e =>
    rw [if_neg h.2]
    exact Ok_s ⟨w1, rfl, by rw [w9]; exact h.1⟩
  | inr y =>
    have h : M.2.1 175 9 = 0 := h
    rw [if_pos h]
    exact Ok_s ⟨w1, rfl⟩
/-- what the clauses make of it, when the last one's reading is known -/
def s_nx (T : gM) (m cl : Nat) (ms : List (Nat × Nat × Nat)) (r : Nat ⊕ (sS × (Nat × Nat × Nat))) : Nat ⊕ (sS × List (Nat × Nat × Nat)) := match r with
  | .inl e => .inl e
  | .inr (y, mk1) => if k_kind T y.1 = 256 then .inr (y, mk1 :: ms) else if k_kind T y.1 = 59 then s_tl T m (cl + 1) (k_go T y.1, y.2) (mk1 :: ms) else .inl (1 + 8 * y.1 + 0)
theorem s_tl_S {T : gM} {m cl : Nat} {x : sS} {ms : List (Nat × Nat × Nat)} : s_tl T (m + 1) cl x ms = s_nx T m cl ms (s_cl T cl x) := rfl
theorem E_rd_L35 {T : gM} (B : z_B T) {t : Nat} : ∀ (n m cl : Nat) {l1 : Int32} {M : gM} {ms : List (Nat × Nat × Nat)} {r : Nat ⊕ (sS × (Nat × Nat × Nat))}, y_HT M → ((l1 = 0 ∧ M.2.1 175 9 ≠ 0 ∧ ∃ e, r = .inl e ∧ (M.2.1 175 9).toInt = (e : Int)) ∨ (l1 = 1 ∧ p_N t cl M ∧ ∃ y mk1, r = .inr (y, mk1) ∧ r_X T t M y)) → (l1 = 0 → 1 ≤ n) → (l1 ≠ 0 → n_s M - n_x M < n) → cl + m = 14 → Ok (F_X12_readsAll_L35 n (some 175) l1 M) (e_Z (s_nx T m cl ms r)) := by
  intro n
  induction n with
  | zero =>
    intro m cl l1 M ms r H h a1 a2 hm
    exfalso
    by_cases e : l1 = 0
    · have := a1 e
      omega
    · have := a2 e
      omega
  | succ n ih =>
    intro m cl l1 M ms r H h a1 a2 hm
    show Ok (F_X12_readsAll_b35 (F_X12_readsAll_L35 n) (some 175) l1 M) _
    delta F_X12_readsAll_b35
    rcases h with ⟨h, h2, e, er, he⟩ | ⟨h, N, y, mk1, er, X⟩
    · subst er
      rw [if_pos h]
      delta F_X12_readsAll_b66
      rw [if_pos h]
      exact E_rd_b88 (r := (.inl e : Nat ⊕ (sS × List (Nat × Nat × Nat)))) H ⟨he, h2⟩
    · subst er
      have hx := N.1.2.1
      have s1 := n_s1 H
      have a3 := a2 (by rw [h]; decide)
      have k1 := n_sk_le hx.2
      obtain ⟨p, hp⟩ : ∃ p, p = n_sk M (n_x M) := ⟨_, rfl⟩
      obtain ⟨ex, X3⟩ := r_Xsee X H hx.2
      have px : p = y.1 := hp.trans ex
      rw [← px] at X3
      rw [← hp] at k1
      obtain ⟨H3, f3⟩ := n_at_set (p := p) H (by omega)
      have x3 : n_x (n_at M p) = p := n_at_x (by omega)
      have s3 : n_s (n_at M p) = n_s M := n_at_s
      have N3 : p_N t cl (n_at M p) := ⟨p_K_of N.1 H3 f3 (by decide) (by rw [x3]; omega), by rw [n_atk (by decide)]; exact N.2.1, N.2.2⟩
      have ec : n_c M p = n_c T p := congrFun (n_T X.1.1 X.1.2).2.2.1.2 p
      have k59 := k_s1 (T := T) (p := p) (c := (59 : Int32)) (n := 59) rfl (by omega) (by omega) (by omega) (by omega)
      have v8 : (n_at M p).2.1 175 8 = Int32.ofNat p := n_at8
      have xi : (Int32.ofNat p).toInt = (p : Int) := i_ofNat (by omega)
      have c12 := N.2.2
      unfold s_nx
      dsimp only
      rw [if_neg (by rw [h]; decide), e_gO H, Option.bind_some, R_see H hx.2, ← hp, Option.bind_some]
      dsimp only
      refine Ok_i (fun e => ?_) (fun e => ?_)
      · have hlt := n_c_lt e (by decide)
        rw [ec] at e
        have kk : k_kind T y.1 = 59 := by rw [← px]; exact k59.1.mp e
        have kg : n_sk T (p + 1) = k_go T y.1 := by rw [← px]; exact (k59.2 e).symm
        rw [if_neg (show ¬ k_kind T y.1 = 256 by rw [kk]; decide), if_pos kk]
        generalize n_at M p = M3 at H3 x3 s3 N3 X3 ⊢
        rw [e_gI H3, Option.bind_some, e_pI H3, Option.bind_some, n_next H3]
        have h9 := N3.1.2.1
        obtain ⟨H5, f5⟩ := n_at_set (p := n_x M3 + 1) H3 (by omega)
        have x5 : n_x (n_at M3 (n_x M3 + 1)) = n_x M3 + 1 := n_at_x (by omega)
        have s5 : n_s (n_at M3 (n_x M3 + 1)) = n_s M3 := n_at_s
        have N5 : p_N t cl (n_at M3 (n_x M3 + 1)) := ⟨p_K_of N3.1 H5 f5 (by decide) (by rw [x5]; omega), by rw [n_atk (by decide)]; exact N3.2.1, N3.2.2⟩
        have X5 : r_X T t (n_at M3 (n_x M3 + 1)) (k_go T y.1, y.2) := r_Xat X3 (by omega) (by rw [x3]; exact kg)
        generalize n_at M3 (n_x M3 + 1) = M5 at H5 x5 s5 N5 X5 ⊢
        rw [e_gC H5, Option.bind_some]
        refine Ok_b (Ok_and (P_clauseHere N5) (E_clauseHere B N5 X5)) (fun y2 z => ?_)
        obtain ⟨v7, M8⟩ := y2
        obtain ⟨⟨⟨H8, G8⟩, z⟩, E, E14⟩ := z
        have s8 := n_fs G8.1 (by decide)
        dsimp only at H8 G8 z s8 E E14 ⊢
        obtain ⟨m', rfl⟩ : ∃ m', m = m' + 1 := ⟨m - 1, by omega⟩
        rw [s_tl_S]
        rw [s_c1_cl] at E
        refine ih m' (cl + 1) H8 ?_ (fun _ => by omega) (fun hne => ?_) (by omega)
        · cases hit : s_cl T (cl + 1) (k_go T y.1, y.2) with
          | inl e =>
            rw [hit] at E
            obtain ⟨E1, E2⟩ := E
            dsimp only at E1 E2
            rcases z with z | ⟨z, _⟩
            · exact Or.inl ⟨E1, z.2, e, rfl, E2⟩
            · rw [E1] at z
              exact absurd z (by decide)
          | inr ym =>
            obtain ⟨y', m''⟩ := ym
            rw [hit] at E
            obtain ⟨E1, E2⟩ := E
            dsimp only at E1 E2
            rcases z with z | ⟨_, ⟨c2, N8⟩, _⟩
            · rw [E1] at z
              exact absurd z.1 (by decide)
            · have q1 := E14 E1
              have q2 := N8.2.1
              have : c2 = cl + 1 := by omega
              subst this
              exact Or.inr ⟨E1, N8, y', m'', rfl, E2⟩
        · rcases z with z | ⟨_, ⟨c2, N8⟩, z3⟩
          · exact absurd z.1 hne
          · have := N8.1.2.1.2
            omega
      · rw [ec] at e
        have kn : k_kind T y.1 ≠ 59 := by rw [← px]; exact mt k59.1.mpr e
        delta F_X12_readsAll_b66
        have X3b := X3
        have se2 : F_X12_see (some 175) (n_at M p) = some (n_c M p, n_at M p) := R_see2 H hx.2 hp
        rw [if_neg (by rw [h]; decide), e_gO H3, Option.bind_some, se2, Option.bind_some]
        dsimp only
        by_cases cE : n_s T ≤ p
        · rw [if_pos (show n_c M p = -1 by rw [ec]; exact (n_c_end B).mpr cE), if_pos (show k_kind T y.1 = 256 by rw [← px]; exact (k_256 B).mpr cE)]
          exact E_rd_b88 H3 X3.2.2.1.1
        · rw [if_neg (show ¬ n_c M p = -1 by rw [ec]; exact mt (n_c_end B).mp cE), if_neg (show ¬ k_kind T y.1 = 256 by rw [← px]; exact mt (k_256 B).mp cE), if_neg kn]
          rw [e_gI H3, Option.bind_some, v8, e_gC H3, Option.bind_some, R_fails H3, Option.bind_some]
          dsimp only
          obtain ⟨H9, f9⟩ := n_f_set (k := 0) (p := Int32.ofNat p) H3
          refine E_rd_b88 H9 ⟨?_, n_f9 xi (by omega) (by decide)⟩
          rw [← px]
          exact n_f_0 X3.2.2.1.1 xi (by omega) rfl (by decide)
-- 7e.erule2
/-! rule() of the reference, as the document says -/
theorem E_readsAll {T : gM} (B : z_B T) {t : Nat} {M : gM} (H : y_HT M) (ht : t ≤ 5) (e11 : (M.2.1 175 11).toInt = (t : Int)) (hc : n_cc M t = 0) (hb : n_b M = n_b T) (hs : n_s M = n_s T) : Ok (F_X12_readsAll (some 175) M) (e_Z (s_text T)) := by
  delta F_X12_readsAll F_X12_readsAll_b0
  have ct : (M.2.1 175 11).toNatClampNeg = t := i_cl e11
  rw [e_gR H (w := 178) rfl (by decide), Option.bind_some, e_gI H, Option.bind_some, e_sI H (i := 178) (n := 7) rfl (by omega) (by omega), Option.bind_some, ct]
  obtain ⟨H3, f3⟩ := y_set (M' := mI M 178 t (0 : Int32)) (S := p_C) H (i := 178) (k := t) (by decide) rfl rfl y_mI1 (fun j a hj => y_mI2 hj) rfl (y_in (lo := 0) (hi := 400) rfl (by decide)) (show Nat.testBit p_C 43 = true by decide)
  have l3 : (mI M 178 t (0 : Int32)).2.1 178 t = 0 := y_mI1
  have r3 : ∀ i k, i ≠ 178 → (mI M 178 t (0 : Int32)).2.1 i k = M.2.1 i k := fun i k h => mI_ne (Or.inl h)
  generalize mI M 178 t (0 : Int32) = M3 at H3 f3 l3 r3 ⊢
  rw [e_pI H3, Option.bind_some]
  obtain ⟨H4, f4⟩ := y_set (M' := mI M3 175 14 (0 : Int32)) (S := p_C) H3 (i := 175) (k := 14) (by decide) rfl rfl y_mI1 (fun j a hj => y_mI2 hj) rfl (y_full rfl) (by decide)
  have w4 : (mI M3 175 14 (0 : Int32)).2.1 175 14 = 0 := y_mI1
  have r4 : ∀ i k, i ≠ 175 ∨ k ≠ 14 → (mI M3 175 14 (0 : Int32)).2.1 i k = M3.2.1 i k := fun i k h => mI_ne h
  generalize mI M3 175 14 (0 : Int32) = M4 at H4 f4 w4 r4 ⊢
  rw [e_pI H4, Option.bind_some]
  obtain ⟨H5, f5⟩ := y_set (M' := mI M4 175 8 (0 : Int32)) (S := p_C) H4 (i := 175) (k := 8) (by decide) rfl rfl y_mI1 (fun j a hj => y_mI2 hj) rfl (y_in (lo := 0) (hi := 400) rfl (by decide)) (by decide)
  have w5 : (mI M4 175 8 (0 : Int32)).2.1 175 8 = 0 := y_mI1
  have r5 : ∀ i k, i ≠ 175 ∨ k ≠ 8 → (mI M4 175 8 (0 : Int32)).2.1 i k = M4.2.1 i k := fun i k h => mI_ne h
  generalize mI M4 175 8 (0 : Int32) = M5 at H5 f5 w5 r5 ⊢
  rw [e_pI H5, Option.bind_some]
  obtain ⟨H6, f6⟩ := y_set (M' := mI M5 175 9 (0 : Int32)) (S := p_C) H5 (i := 175) (k := 9) (by decide) rfl rfl y_mI1 (fun j a hj => y_mI2 hj) rfl (y_full rfl) (by decide)
  have w6 : (mI M5 175 9 (0 : Int32)).2.1 175 9 = 0 := y_mI1
  have r6 : ∀ i k, i ≠ 175 ∨ k ≠ 9 → (mI M5 175 9 (0 : Int32)).2.1 i k = M5.2.1 i k := fun i k h => mI_ne h
  generalize mI M5 175 9 (0 : Int32) = M6 at H6 f6 w6 r6 ⊢
  rw [e_pI H6, Option.bind_some]
  obtain ⟨H7, f7⟩ := y_set (M' := mI M6 175 12 (0 : Int32)) (S := p_C) H6 (i := 175) (k := 12) (by decide) rfl rfl y_mI1 (fun j a hj => y_mI2 hj) rfl (y_in (lo := 0) (hi := 60) rfl (by decide)) (by decide)
  have w7 : (mI M6 175 12 (0 : Int32)).2.1 175 12 = 0 := y_mI1
  have r7 : ∀ i k, i ≠ 175 ∨ k ≠ 12 → (mI M6 175 12 (0 : Int32)).2.1 i k = M6.2.1 i k := fun i k h => mI_ne h
  generalize mI M6 175 12 (0 : Int32) = M7 at H7 f7 w7 r7 ⊢
  have e : ∀ i, i ≠ 175 → i ≠ 178 → ∀ k, M7.2.1 i k = M.2.1 i k := fun i h1 h2 k => by rw [r7 i k (Or.inl h1), r6 i k (Or.inl h1), r5 i k (Or.inl h1), r4 i k (Or.inl h1), r3 i k h2]
  have e11' : M7.2.1 175 11 = M.2.1 175 11 := by rw [r7 _ _ (Or.inr (by decide)), r6 _ _ (Or.inr (by decide)), r5 _ _ (Or.inr (by decide)), r4 _ _ (Or.inr (by decide)), r3 _ _ (by decide)]
  have e1 : M7.2.1 175 1 = M.2.1 175 1 := by rw [r7 _ _ (Or.inr (by decide)), r6 _ _ (Or.inr (by decide)), r5 _ _ (Or.inr (by decide)), r4 _ _ (Or.inr (by decide)), r3 _ _ (by decide)]
  have e14 : M7.2.1 175 14 = 0 := by rw [r7 _ _ (Or.inr (by decide)), r6 _ _ (Or.inr (by decide)), r5 _ _ (Or.inr (by decide)), w4]
  have e8 : M7.2.1 175 8 = 0 := by rw [r7 _ _ (Or.inr (by decide)), r6 _ _ (Or.inr (by decide)), w5]
  have e9 : M7.2.1 175 9 = 0 := by rw [r7 _ _ (Or.inr (by decide)), w6]
  have el : M7.2.1 178 t = 0 := by rw [r7 _ _ (Or.inl (by decide)), r6 _ _ (Or.inl (by decide)), r5 _ _ (Or.inl (by decide)), r4 _ _ (Or.inl (by decide)), l3]
  have x7 : n_x M7 = 0 := by unfold n_x; rw [e8]; rfl
  have l7 : n_l M7 t = 0 := by unfold n_l; rw [el]; rfl
  have s7 : n_s M7 = n_s M := by unfold n_s; rw [e1]
  have N7 : p_N t 0 M7 := by
    refine ⟨⟨⟨⟨H7, ht⟩, by rw [e11']; exact e11⟩, ⟨by rw [l7]; exact Nat.zero_le _, by rw [x7]; exact Nat.zero_le _⟩, ?_, fun k hk => absurd hk (Nat.not_lt_zero _)⟩, by rw [e14]; rfl, by omega⟩
    unfold n_cc
    rw [e 180 (by decide) (by decide) t]
    exact hc
  have X7 : r_X T t M7 (n_sk T 0, 0, []) := by
    refine ⟨⟨(funext (fun q => e 176 (by decide) (by decide) q)).trans hb, s7.trans hs⟩, by rw [x7], ⟨e9, by unfold n_m; rw [w7]; rfl⟩, l7, trivial⟩
  rw [e_gO H7, Option.bind_some]
  refine Ok_b (Ok_and (P_clauseHere N7) (E_clauseHere B N7 X7)) (fun y z => ?_)
  obtain ⟨v9, M10⟩ := y
  obtain ⟨⟨⟨H10, G10⟩, z⟩, E, E14⟩ := z
  dsimp only at H10 G10 z E E14 ⊢
  have s10 := n_s1 H10
  have ht1 : s_text T = s_nx T 13 1 [] (s_cl T 1 (n_sk T 0, 0, [])) := s_tl_S
  rw [ht1]
  rw [s_c1_cl] at E
  refine E_rd_L35 B (t := t) _ 13 1 H10 ?_ (fun _ => n_fu (by omega)) (fun _ => n_fu (by omega)) rfl
  cases hit : s_cl T (0 + 1) (n_sk T 0, 0, []) with
  | inl e =>
    have hit2 : s_cl T 1 (n_sk T 0, 0, []) = .inl e := hit
    rw [hit] at E
    obtain ⟨E1, E2⟩ := E
    dsimp only at E1 E2
    rcases z with z | ⟨z, _⟩
    · exact Or.inl ⟨E1, z.2, e, rfl, E2⟩
    · rw [E1] at z
      exact absurd z (by decide)
  | inr ym =>
    obtain ⟨y', m''⟩ := ym
    have hit2 : s_cl T 1 (n_sk T 0, 0, []) = .inr (y', m'') := hit
    rw [hit] at E
    obtain ⟨E1, E2⟩ := E
    dsimp only at E1 E2
    rcases z with z | ⟨_, ⟨c2, N8⟩, _⟩
    · rw [E1] at z
      exact absurd z.1 (by decide)
    · have q1 := E14 E1
      have q2 := N8.2.1
      have : c2 = 1 := by omega
      subst this
      exact Or.inr ⟨E1, N8, y', m'', rfl, E2⟩
/-- the number of the rule, or the FAULT -/
theorem E_rule {T M : gM} (B : z_B T) (H : y_HT M) (hb : n_b M = n_b T) (hs : n_s M = n_s T) (h2 : (M.2.1 175 2).toInt ≠ 6) : Ok (F_X12_rule (some 175) M) (fun r => r.2.2.1 175 1 = 0 ∧ (match s_text T with
    | .inl e => (∃ w : Int32, r.1 = (-2 : Int32) - w ∧ w.toInt = (e : Int)) ∧ r.2.2.1 175 2 = M.2.1 175 2
    | .inr _ => r.1 = M.2.1 175 2 ∧ (r.2.2.1 175 2).toInt = (M.2.1 175 2).toInt + 1)) := by
  delta F_X12_rule F_X12_rule_b0
  have hr := H.2.1 175 (by decide) 2
  have hr1 : 0 ≤ (M.2.1 175 2).toInt := hr.1
  have hr2 : (M.2.1 175 2).toInt ≤ 6 := hr.2
  have z6 : (6 : Int32).toInt = 6 := rfl
  rw [e_gI H, Option.bind_some, if_neg (fun z => h2 (by rw [z]; rfl))]
  obtain ⟨t, ht⟩ : ∃ t : Nat, (M.2.1 175 2).toInt = (t : Int) := ⟨(M.2.1 175 2).toInt.toNat, by omega⟩
  rw [Option.bind_some, e_pI H, Option.bind_some]
  obtain ⟨H3, f3⟩ := y_set (M' := mI M 175 11 (M.2.1 175 2)) (S := p_C + 2 ^ 2 + 2 ^ 11) H (i := 175) (k := 11) (by decide) rfl rfl y_mI1 (fun j a hj => y_mI2 hj) rfl (y_in (lo := 0) (hi := 6) rfl ⟨hr1, hr2⟩) (by decide)
  have w3 : (mI M 175 11 (M.2.1 175 2)).2.1 175 11 = M.2.1 175 2 := y_mI1
  have r3 : ∀ i k, i ≠ 175 ∨ k ≠ 11 → (mI M 175 11 (M.2.1 175 2)).2.1 i k = M.2.1 i k := fun i k h => mI_ne h
  generalize mI M 175 11 (M.2.1 175 2) = M3 at H3 f3 w3 r3 ⊢
  have ct : (M3.2.1 175 11).toNatClampNeg = t := i_cl (by rw [w3]; exact ht)
  rw [e_gR H3 (w := 180) rfl (by decide), Option.bind_some, e_gI H3, Option.bind_some, e_sI H3 (i := 180) (n := 6) rfl (by rw [w3]; omega) (by rw [w3]; omega), Option.bind_some, ct]
  obtain ⟨H6, f6⟩ := y_set (M' := mI M3 180 t (0 : Int32)) (S := p_C + 2 ^ 2 + 2 ^ 11) H3 (i := 180) (k := t) (by decide) rfl rfl y_mI1 (fun j a hj => y_mI2 hj) rfl (y_in (lo := 0) (hi := 12) rfl (by decide)) (show Nat.testBit (p_C + 2 ^ 2 + 2 ^ 11) 45 = true by decide)
  have w6 : (mI M3 180 t (0 : Int32)).2.1 180 t = 0 := y_mI1
  have r6 : ∀ i k, i ≠ 180 ∨ k ≠ t → (mI M3 180 t (0 : Int32)).2.1 i k = M3.2.1 i k := fun i k h => mI_ne h
  generalize mI M3 180 t (0 : Int32) = M6 at H6 f6 w6 r6 ⊢
  have e11 : (M6.2.1 175 11).toInt = (t : Int) := by rw [r6 _ _ (Or.inl (by decide)), w3]; exact ht
  have e1 : M6.2.1 175 1 = M.2.1 175 1 := (r6 _ _ (Or.inl (by decide))).trans (r3 _ _ (Or.inr (by decide)))
  have e176 : n_b M6 = n_b M := funext (fun q => (r6 176 q (Or.inl (by decide))).trans (r3 176 q (Or.inl (by decide))))
  have e2 : M6.2.1 175 2 = M.2.1 175 2 := (r6 _ _ (Or.inl (by decide))).trans (r3 _ _ (Or.inr (by decide)))
  have c6 : n_cc M6 t = 0 := by unfold n_cc; rw [w6]; rfl
  rw [e_gO H6, Option.bind_some]
  refine Ok_b (Ok_and (P_readsAllR H6 (by omega) e11 c6) (E_readsAll B H6 (by omega) e11 c6 (e176.trans hb) (by rw [← hs]; unfold n_s; rw [e1]))) (fun y z => ?_)
  obtain ⟨v8, M9⟩ := y
  obtain ⟨⟨⟨H9, G9⟩, z⟩, E1, E⟩ := z
  dsimp only at H9 G9 z E1 E ⊢
  have k2 : M9.2.1 175 2 = M.2.1 175 2 := (y_fk (i := 175) (k := 2) G9.1 (by decide)).trans e2
  generalize s_text T = r at E ⊢
  cases r with
  | inl e =>
    obtain ⟨h5, g5⟩ := E
    subst h5
    rw [if_pos rfl, e_gI H9, Option.bind_some]
    exact Ok_s ⟨E1, ⟨_, rfl, g5⟩, k2⟩
  | inr y =>
    have h5 : v8 = 1 := E
    subst h5
    have inc := n_inc (x := M9.2.1 175 2) (n := t) (by rw [k2]; exact ht) (by omega)
    rw [if_neg (by decide), e_gI H9, Option.bind_some, e_pI H9, Option.bind_some, inc]
    have ci : (Int32.ofNat (t + 1)).toInt = ((t + 1 : Nat) : Int) := i_ofNat (by omega)
    have H11 : y_HT (mI M9 175 2 (Int32.ofNat (t + 1))) := (y_set (M' := mI M9 175 2 (Int32.ofNat (t + 1))) (S := p_C + 2 ^ 2 + 2 ^ 11) H9 (i := 175) (k := 2) (by decide) rfl rfl y_mI1 (fun j a hj => y_mI2 hj) rfl (y_in (lo := 0) (hi := 6) rfl (by omega)) (by decide)).1
    have w11 : (mI M9 175 2 (Int32.ofNat (t + 1))).2.1 175 2 = Int32.ofNat (t + 1) := y_mI1
    have w1 : (mI M9 175 2 (Int32.ofNat (t + 1))).2.1 175 1 = 0 := (mI_ne (Or.inr (by decide))).trans E1
    rw [e_gI H11, Option.bind_some, w11]
    refine Ok_s ⟨w1, ?_, ?_⟩
    · refine Int32.toInt_inj.mp ?_
      show (Int32.ofNat (t + 1) - (1 : Int32)).toInt = _
      rw [i_subc (n := 1) rfl (by omega) (by omega)]
      omega
    · show ((mI M9 175 2 (Int32.ofNat (t + 1))).2.1 175 2).toInt = _
      rw [w11]
      omega
-- 7f.tape
/-! the tape, of both -/
def u_1 (f : Nat → Int32) (n : Nat) (b : Int32) : Nat → Int32 := fun k => if k = n then b else f k
def u_b (v s : Int32) : Int32 := (((v >>> (s &&& 31)).toInt8.toInt32)).toInt8.toInt32
def u_L (v : Int32) : Nat → Int32 → (Nat → Int32) → Nat → (Nat → Int32)
  | 0, _, f, _ => f
  | j + 1, s, f, n => u_L v j (s + (-8)) (u_1 f n (u_b v s)) (n + 1)
def u_4 (v : Int32) (f : Nat → Int32) (n : Nat) : Nat → Int32 := u_L v 4 24 f n
theorem u_mI {M : gM} {i n : Nat} {b : Int32} : (mI M i n b).2.1 i = u_1 (M.2.1 i) n b := by
  funext k
  unfold u_1
  by_cases c : k = n
  · subst c
    rw [if_pos rfl, y_mI1]
  · rw [if_neg c, mI_ne (Or.inr c)]
theorem u_L_r {v : Int32} : ∀ (j : Nat) {s : Int32} {f : Nat → Int32} {n : Nat}, (∀ q, -128 ≤ (f q).toInt ∧ (f q).toInt ≤ 127) → ∀ q, -128 ≤ (u_L v j s f n q).toInt ∧ (u_L v j s f n q).toInt ≤ 127 := by
  intro j
  induction j with
  | zero => intro s f n h q; exact h q
  | succ j ih =>
    intro s f n h q
    refine ih (fun k => ?_) q
    unfold u_1
    by_cases c : k = n
    · rw [if_pos c]
      unfold u_b
      rw [Int8.toInt_toInt32]
      have a1 := Int8.le_toInt (((v >>> (s &&& 31)).toInt8.toInt32).toInt8)
      have a2 := Int8.toInt_lt (((v >>> (s &&& 31)).toInt8.toInt32).toInt8)
      omega
    · rw [if_neg c]
      exact h k
def u_Z (M : gM) : Prop := (g_k M 131 = (9, 0) ∧ g_k M 132 = (22, 400)) ∧ M.2.2.2 131 0 = some 132
theorem u_Zm {M : gM} {i k : Nat} {v : Int32} (h : u_Z M) : u_Z (mI M i k v) := h
theorem C_append_L3 {v : Int32} : ∀ (j fuel : Nat) {s : Int32} {M : gM} {n : Nat}, u_Z M → s.toInt = 8 * (j : Int) - 8 → j ≤ 4 → (M.2.1 131 6).toInt = (n : Int) → n + j ≤ 400 → j < fuel → Ok (F_X9_append_L3 fuel (some 131) v s M) (fun M' => (M'.1 = M.1 ∧ M'.2.2.2 = M.2.2.2) ∧ M'.2.1 132 = u_L v j s (M.2.1 132) n ∧ (M'.2.1 131 6).toInt = ((n + j : Nat) : Int)) := by
  intro j
  induction j with
  | zero =>
    intro fuel s M n Z hs hj hn hb hf
    obtain ⟨fuel, rfl⟩ : ∃ f, fuel = f + 1 := ⟨fuel - 1, by omega⟩
    show Ok (F_X9_append_b3 (F_X9_append_L3 fuel) (some 131) v s M) _
    delta F_X9_append_b3
    rw [if_pos (Int32.lt_iff_toInt_lt.mpr (by have z0 : (0 : Int32).toInt = 0 := rfl; omega))]
    exact Ok_s ⟨⟨rfl, rfl⟩, rfl, hn⟩
  | succ j ih =>
    intro fuel s M n Z hs hj hn hb hf
    obtain ⟨fuel, rfl⟩ : ∃ f, fuel = f + 1 := ⟨fuel - 1, by omega⟩
    show Ok (F_X9_append_b3 (F_X9_append_L3 fuel) (some 131) v s M) _
    have z0 : (0 : Int32).toInt = 0 := rfl
    have z4 : (400 : Int32).toInt = 400 := rfl
    obtain ⟨⟨k1, k2⟩, r0⟩ := Z
    have Z0 : u_Z M := ⟨⟨k1, k2⟩, r0⟩
    have s32 : sB M (some 132) (M.2.1 131 6) ((v >>> (s &&& 31)).toInt8.toInt32) = some (mI M 132 n (u_b v s)) := by
      unfold sB
      rw [Option.bind_some, if_pos ⟨by rw [k2], by rw [k2]; exact gin_of (by omega) (by omega)⟩, i_cl hn]
      rfl
    have k1' : g_k (mI M 132 n (u_b v s)) 131 = (9, 0) := k1
    have e6 : (mI M 132 n (u_b v s)).2.1 131 6 = M.2.1 131 6 := mI_ne (Or.inl (by decide))
    delta F_X9_append_b3
    rw [if_neg (fun z => by have := i_lt z; omega), t_gI k1, Option.bind_some, if_neg (fun z => by have := i_le z; omega), t_gR k1 r0, Option.bind_some, Option.bind_some, s32, Option.bind_some, t_gI k1', Option.bind_some, t_pI k1', Option.bind_some, e6, n_inc hn (by omega)]
    have a2 := i_addc (x := s) (c := (-8 : Int32)) (n := -8) rfl (by omega) (by omega)
    refine Ok_w (ih fuel (s := s + (-8)) (n := n + 1) (u_Zm (u_Zm Z0)) (by omega) (by omega) (by rw [y_mI1, i_ofNat (by omega)]) (by omega) (by omega)) (fun M' z => ?_)
    obtain ⟨⟨q1, q2⟩, q3, q4⟩ := z
    refine ⟨⟨q1, q2⟩, ?_, by rw [q4]; omega⟩
    rw [q3]
    show u_L v j (s + (-8)) ((mI (mI M 132 n (u_b v s)) 131 6 (Int32.ofNat (n + 1))).2.1 132) (n + 1) = u_L v j (s + (-8)) (u_1 (M.2.1 132) n (u_b v s)) (n + 1)
    rw [← u_mI]
    exact congrArg (fun f => u_L v j (s + (-8)) f (n + 1)) (funext (fun q => mI_ne (Or.inl (by decide))))
theorem C_append {v : Int32} {M : gM} {n : Nat} (Z : u_Z M) (hn : (M.2.1 131 6).toInt = (n : Int)) (hb : n + 4 ≤ 400) : Ok (F_X9_append (some 131) v M) (fun M' => (M'.1 = M.1 ∧ M'.2.2.2 = M.2.2.2) ∧ M'.2.1 132 = u_4 v (M.2.1 132) n ∧ (M'.2.1 131 6).toInt = ((n + 4 : Nat) : Int)) := by
  delta F_X9_append F_X9_append_b0
  exact C_append_L3 4 _ Z rfl (by decide) hn hb (by decide)
theorem E_four_L3 {v : Int32} : ∀ (j fuel : Nat) {s : Int32} {M : gM} {n : Nat}, y_HT M → s.toInt = 8 * (j : Int) - 8 → j ≤ 4 → (M.2.1 175 1).toInt = (n : Int) → n + j ≤ 400 → j < fuel → Ok (F_X12_four_L3 fuel (some 175) v s M) (fun M' => M'.2.1 176 = u_L v j s (M.2.1 176) n ∧ (M'.2.1 175 1).toInt = ((n + j : Nat) : Int)) := by
  intro j
  induction j with
  | zero =>
    intro fuel s M n H hs hj hn hb hf
    obtain ⟨fuel, rfl⟩ : ∃ f, fuel = f + 1 := ⟨fuel - 1, by omega⟩
    show Ok (F_X12_four_b3 (F_X12_four_L3 fuel) (some 175) v s M) _
    delta F_X12_four_b3
    rw [if_pos (Int32.lt_iff_toInt_lt.mpr (by have z0 : (0 : Int32).toInt = 0 := rfl; omega))]
    exact Ok_s ⟨rfl, hn⟩
  | succ j ih =>
    intro fuel s M n H hs hj hn hb hf
    obtain ⟨fuel, rfl⟩ : ∃ f, fuel = f + 1 := ⟨fuel - 1, by omega⟩
    show Ok (F_X12_four_b3 (F_X12_four_L3 fuel) (some 175) v s M) _
    have z0 : (0 : Int32).toInt = 0 := rfl
    have k2 : g_k M 176 = (22, 400) := H.1.1 176 (by decide)
    have s32 : sB M (some 176) (M.2.1 175 1) ((v >>> (s &&& 31)).toInt8.toInt32) = some (mI M 176 n (u_b v s)) := by
      unfold sB
      rw [Option.bind_some, if_pos ⟨by rw [k2], by rw [k2]; exact gin_of (by omega) (by omega)⟩, i_cl hn]
      rfl
    have H1 : y_HT (mI M 176 n (u_b v s)) := (y_set (M' := mI M 176 n (u_b v s)) (S := 2 ^ 41) H (i := 176) (k := n) (by decide) rfl rfl y_mI1 (fun j a hj => y_mI2 hj) rfl (y_full rfl) (show Nat.testBit (2 ^ 41) 41 = true by decide)).1
    have e6 : (mI M 176 n (u_b v s)).2.1 175 1 = M.2.1 175 1 := mI_ne (Or.inl (by decide))
    delta F_X12_four_b3
    rw [if_neg (fun z => by have := i_lt z; omega), e_gR H (w := 176) rfl (by decide), Option.bind_some, e_gI H, Option.bind_some, s32, Option.bind_some, e_gI H1, Option.bind_some, e_pI H1, Option.bind_some, e6, n_inc hn (by omega)]
    have H2 : y_HT (mI (mI M 176 n (u_b v s)) 175 1 (Int32.ofNat (n + 1))) := (y_set (M' := mI (mI M 176 n (u_b v s)) 175 1 (Int32.ofNat (n + 1))) (S := 2 ^ 1) H1 (i := 175) (k := 1) (by decide) rfl rfl y_mI1 (fun j a hj => y_mI2 hj) rfl (y_in (lo := 0) (hi := 400) rfl (by rw [i_ofNat (by omega)]; omega)) (by decide)).1
    have a2 := i_addc (x := s) (c := (-8 : Int32)) (n := -8) rfl (by omega) (by omega)
    refine Ok_w (ih fuel (s := s + (-8)) (n := n + 1) H2 (by omega) (by omega) (by rw [y_mI1, i_ofNat (by omega)]) (by omega) (by omega)) (fun M' z => ?_)
    obtain ⟨q3, q4⟩ := z
    refine ⟨?_, by rw [q4]; omega⟩
    rw [q3]
    show u_L v j (s + (-8)) ((mI (mI M 176 n (u_b v s)) 175 1 (Int32.ofNat (n + 1))).2.1 176) (n + 1) = u_L v j (s + (-8)) (u_1 (M.2.1 176) n (u_b v s)) (n + 1)
    rw [← u_mI]
    exact congrArg (fun f => u_L v j (s + (-8)) f (n + 1)) (funext (fun q => mI_ne (Or.inl (by decide))))
theorem E_four {v : Int32} {M : gM} {n : Nat} (H : y_HT M) (hn : (M.2.1 175 1).toInt = (n : Int)) (hb : n + 4 ≤ 400) : Ok (F_X12_four (some 175) v M) (fun M' => M'.2.1 176 = u_4 v (M.2.1 176) n ∧ (M'.2.1 175 1).toInt = ((n + 4 : Nat) : Int)) := by
  delta F_X12_four F_X12_four_b0
  exact E_four_L3 4 _ H rfl (by decide) hn hb (by decide)
-- 7g.feed
/-! feed and end, of both -/
def u_5 (v1 v2 v3 v4 v5 : Int32) (f : Nat → Int32) (n : Nat) : Nat → Int32 := u_4 v5 (u_4 v4 (u_4 v3 (u_4 v2 (u_4 v1 f n) (n + 4)) (n + 4 + 4)) (n + 4 + 4 + 4)) (n + 4 + 4 + 4 + 4)
theorem u_5_r {v1 v2 v3 v4 v5 : Int32} {f : Nat → Int32} {n : Nat} (h : ∀ q, -128 ≤ (f q).toInt ∧ (f q).toInt ≤ 127) : ∀ q, -128 ≤ (u_5 v1 v2 v3 v4 v5 f n q).toInt ∧ (u_5 v1 v2 v3 v4 v5 f n q).toInt ≤ 127 := u_L_r 4 (u_L_r 4 (u_L_r 4 (u_L_r 4 (u_L_r 4 h))))
theorem u_Zk {M M' : gM} (h : u_Z M) (hk : M'.1 = M.1) (hr : M'.2.2.2 = M.2.2.2) : u_Z M' := by
  have e : ∀ i, g_k M' i = g_k M i := fun i => q_k_of hk
  exact ⟨⟨by rw [e]; exact h.1.1, by rw [e]; exact h.1.2⟩, by rw [hr]; exact h.2⟩
theorem C_feed {v1 v2 v3 v4 v5 : Int32} {M : gM} {n : Nat} (k2 : g_k M 2 = (11, 0)) (r2 : M.2.2.2 2 0 = some 131) (Z : u_Z M) (hn : (M.2.1 131 6).toInt = (n : Int)) (hb : n ≤ 400) : Ok (F_X11_feed (some 2) v1 v2 v3 v4 v5 M) (fun r => (n + 20 ≤ 400 → r.1.toInt = ((n + 20 : Nat) : Int) ∧ r.2.2.1 132 = u_5 v1 v2 v3 v4 v5 (M.2.1 132) n ∧ (r.2.2.1 131 6).toInt = ((n + 20 : Nat) : Int)) ∧ (¬ n + 20 ≤ 400 → r = (-1, M))) := by
  have z400 : (400 : Int32).toInt = 400 := rfl
  have a := i_addc (x := M.2.1 131 6) (c := (20 : Int32)) (n := 20) rfl (by omega) (by omega)
  delta F_X11_feed F_X11_feed_b0
  rw [t_gR k2 r2, Option.bind_some, t_gI Z.1.1, Option.bind_some]
  by_cases c : n + 20 ≤ 400
  · rw [if_pos (Int32.le_iff_toInt_le.mpr (by omega)), Option.bind_some, t_gO Z.1.1, Option.bind_some]
    refine Ok_b (C_append (v := v1) Z hn (by omega)) (fun M1 z1 => ?_)
    obtain ⟨⟨a1, b1⟩, c1, d1⟩ := z1
    have Z1 := u_Zk Z a1 b1
    have k21 : g_k M1 2 = (11, 0) := (q_k_of a1).trans k2
    have r21 : M1.2.2.2 2 0 = some 131 := by rw [b1]; exact r2
    rw [t_gR k21 r21, Option.bind_some, t_gO Z1.1.1, Option.bind_some]
    refine Ok_b (C_append (v := v2) Z1 d1 (by omega)) (fun M2 z2 => ?_)
    obtain ⟨⟨a2, b2⟩, c2, d2⟩ := z2
    have Z2 := u_Zk Z1 a2 b2
    have k22 : g_k M2 2 = (11, 0) := (q_k_of a2).trans k21
    have r22 : M2.2.2.2 2 0 = some 131 := by rw [b2]; exact r21
    rw [t_gR k22 r22, Option.bind_some, t_gO Z2.1.1, Option.bind_some]
    refine Ok_b (C_append (v := v3) Z2 d2 (by omega)) (fun M3 z3 => ?_)
    obtain ⟨⟨a3, b3⟩, c3, d3⟩ := z3
    have Z3 := u_Zk Z2 a3 b3
    have k23 : g_k M3 2 = (11, 0) := (q_k_of a3).trans k22
    have r23 : M3.2.2.2 2 0 = some 131 := by rw [b3]; exact r22
    rw [t_gR k23 r23, Option.bind_some, t_gO Z3.1.1, Option.bind_some]
    refine Ok_b (C_append (v := v4) Z3 d3 (by omega)) (fun M4 z4 => ?_)
    obtain ⟨⟨a4, b4⟩, c4, d4⟩ := z4
    have Z4 := u_Zk Z3 a4 b4
    have k24 : g_k M4 2 = (11, 0) := (q_k_of a4).trans k23
    have r24 : M4.2.2.2 2 0 = some 131 := by rw [b4]; exact r23
    rw [t_gR k24 r24, Option.bind_some, t_gO Z4.1.1, Option.bind_some]
    refine Ok_b (C_append (v := v5) Z4 d4 (by omega)) (fun M5 z5 => ?_)
    obtain ⟨⟨a5, b5⟩, c5, d5⟩ := z5
    have Z5 := u_Zk Z4 a5 b5
    have k25 : g_k M5 2 = (11, 0) := (q_k_of a5).trans k24
    have r25 : M5.2.2.2 2 0 = some 131 := by rw [b5]; exact r24
    rw [t_gR k25 r25, Option.bind_some, t_gI Z5.1.1, Option.bind_some]
    refine Ok_s ⟨fun _ => ⟨by rw [d5], ?_, by rw [d5]⟩, fun z => absurd c z⟩
    show M5.2.1 132 = _
    rw [c5, c4, c3, c2, c1]
    rfl
  · rw [if_neg (fun z => by have := i_le z; omega)]
    exact Ok_s ⟨fun z => absurd z c, fun _ => rfl⟩
theorem E_feed {v1 v2 v3 v4 v5 : Int32} {M : gM} {n : Nat} (H : y_HT M) (hn : (M.2.1 175 1).toInt = (n : Int)) (hb : n ≤ 400) : Ok (F_X12_feed (some 175) v1 v2 v3 v4 v5 M) (fun r => (n + 20 ≤ 400 → r.1.toInt = ((n + 20 : Nat) : Int) ∧ r.2.2.1 176 = u_5 v1 v2 v3 v4 v5 (M.2.1 176) n ∧ (r.2.2.1 175 1).toInt = ((n + 20 : Nat) : Int)) ∧ (¬ n + 20 ≤ 400 → r = (-1, M))) := by
  have z400 : (400 : Int32).toInt = 400 := rfl
  have a := i_addc (x := M.2.1 175 1) (c := (20 : Int32)) (n := 20) rfl (by omega) (by omega)
  delta F_X12_feed F_X12_feed_b0
  rw [e_gI H, Option.bind_some]
  by_cases c : n + 20 ≤ 400
  · rw [if_pos (Int32.le_iff_toInt_le.mpr (by omega)), e_gO H, Option.bind_some]
    refine Ok_b (Ok_and (S_X12_four (l1 := v1) H (by omega)) (E_four (v := v1) H hn (by omega))) (fun M1 z1 => ?_)
    obtain ⟨⟨⟨H1, _⟩, _⟩, c1, d1⟩ := z1
    rw [e_gC H1, Option.bind_some]
    refine Ok_b (Ok_and (S_X12_four (l1 := v2) H1 (by omega)) (E_four (v := v2) H1 d1 (by omega))) (fun M2 z2 => ?_)
    obtain ⟨⟨⟨H2, _⟩, _⟩, c2, d2⟩ := z2
    rw [e_gC H2, Option.bind_some]
    refine Ok_b (Ok_and (S_X12_four (l1 := v3) H2 (by omega)) (E_four (v := v3) H2 d2 (by omega))) (fun M3 z3 => ?_)
    obtain ⟨⟨⟨H3, _⟩, _⟩, c3, d3⟩ := z3
    rw [e_gC H3, Option.bind_some]
    refine Ok_b (Ok_and (S_X12_four (l1 := v4) H3 (by omega)) (E_four (v := v4) H3 d3 (by omega))) (fun M4 z4 => ?_)
    obtain ⟨⟨⟨H4, _⟩, _⟩, c4, d4⟩ := z4
    rw [e_gC H4, Option.bind_some]
    refine Ok_b (Ok_and (S_X12_four (l1 := v5) H4 (by omega)) (E_four (v := v5) H4 d4 (by omega))) (fun M5 z5 => ?_)
    obtain ⟨⟨⟨H5, _⟩, _⟩, c5, d5⟩ := z5
    rw [e_gI H5, Option.bind_some]
    refine Ok_s ⟨fun _ => ⟨by rw [d5], ?_, by rw [d5]⟩, fun z => absurd c z⟩
    show M5.2.1 176 = _
    rw [c5, c4, c3, c2, c1]
    rfl
  · rw [if_neg (fun z => by have := i_le z; omega)]
    exact Ok_s ⟨fun z => absurd z c, fun _ => rfl⟩
theorem C_end {l : Int32} {M : gM} (k2 : g_k M 2 = (11, 0)) (r2 : M.2.2.2 2 0 = some 131) (Z : u_Z M) : F_X11_end (some 2) l M = some (if l < 0 then (-1, M) else if l ≤ M.2.1 131 6 then (l, mI M 131 6 l) else (-1, M)) := by
  delta F_X11_end F_X11_end_b0 F_X11_end_b15
  rw [t_gR k2 r2, Option.bind_some, t_gI Z.1.1, Option.bind_some, Option.bind_some, t_pI Z.1.1, Option.bind_some]
  split
  · rfl
  · split <;> rfl
theorem E_end {l : Int32} {M : gM} (H : y_HT M) : F_X12_end (some 175) l M = some (if l < 0 then (-1, M) else if l ≤ M.2.1 175 1 then (l, mI M 175 1 l) else (-1, M)) := by
  delta F_X12_end F_X12_end_b0 F_X12_end_b12
  rw [e_gI H, Option.bind_some, e_pI H, Option.bind_some]
  split
  · rfl
  · split <;> rfl
/-- the reference's reader empties the tape -/
theorem E_rd_b88e {M : gM} {r : Int32 × gM} (h : F_X12_readsAll_b88 (some 175) M = some r) : r.2.2.1 175 1 = 0 := by
  delta F_X12_readsAll_b88 at h
  obtain ⟨M1, h1, h⟩ := g_bd h
  obtain ⟨v, h2, h⟩ := g_bd h
  have e : M1.2.1 175 1 = 0 := by
    unfold pI at h1
    rw [Option.bind_some] at h1
    split at h1
    · cases h1
      exact y_mI1
    · cases h1
  split at h
  · cases h; exact e
  · cases h; exact e
theorem E_rd_b66e {l1 : Int32} {M : gM} {r : Int32 × gM} (h : F_X12_readsAll_b66 (some 175) l1 M = some r) : r.2.2.1 175 1 = 0 := by
  delta F_X12_readsAll_b66 at h
  split at h
  · exact E_rd_b88e h
  · obtain ⟨i, h1, h⟩ := g_bd h
    have ei : i = 175 := by
      unfold gO at h1
      rw [Option.bind_some] at h1
      split at h1
      · cases h1; rfl
      · cases h1
    subst ei
    obtain ⟨⟨v, M3⟩, h2, h⟩ := g_bd h
    dsimp only at h
    split at h
    · exact E_rd_b88e h
    · obtain ⟨_, _, h⟩ := g_bd h
      obtain ⟨_, _, h⟩ := g_bd h
      obtain ⟨⟨_, M7⟩, _, h⟩ := g_bd h
      exact E_rd_b88e h
theorem E_rd_L35e : ∀ (n : Nat) {l1 : Int32} {M : gM} {r : Int32 × gM}, F_X12_readsAll_L35 n (some 175) l1 M = some r → r.2.2.1 175 1 = 0 := by
  intro n
  induction n with
  | zero => intro l1 M r h; cases h
  | succ n ih =>
    intro l1 M r h
    have h : F_X12_readsAll_b35 (F_X12_readsAll_L35 n) (some 175) l1 M = some r := h
    delta F_X12_readsAll_b35 at h
    split at h
    · exact E_rd_b66e h
    · obtain ⟨i, h1, h⟩ := g_bd h
      have ei : i = 175 := by
        unfold gO at h1
        rw [Option.bind_some] at h1
        split at h1
        · cases h1; rfl
        · cases h1
      subst ei
      obtain ⟨⟨v, M3⟩, h2, h⟩ := g_bd h
      dsimp only at h
      split at h
      · obtain ⟨_, _, h⟩ := g_bd h
        obtain ⟨_, _, h⟩ := g_bd h
        obtain ⟨_, _, h⟩ := g_bd h
        obtain ⟨⟨_, _⟩, _, h⟩ := g_bd h
        exact ih h
      · exact E_rd_b66e h
theorem E_rd_e {M : gM} {r : Int32 × gM} (h : F_X12_readsAll (some 175) M = some r) : r.2.2.1 175 1 = 0 := by
  delta F_X12_readsAll F_X12_readsAll_b0 at h
  obtain ⟨_, _, h⟩ := g_bd h
  obtain ⟨_, _, h⟩ := g_bd h
  obtain ⟨_, _, h⟩ := g_bd h
  obtain ⟨_, _, h⟩ := g_bd h
  obtain ⟨_, _, h⟩ := g_bd h
  obtain ⟨_, _, h⟩ := g_bd h
  obtain ⟨M7, _, h⟩ := g_bd h
  obtain ⟨i, h1, h⟩ := g_bd h
  have ei : i = 175 := by
    unfold gO at h1
    rw [Option.bind_some] at h1
    split at h1
    · cases h1; rfl
    · cases h1
  subst ei
  obtain ⟨⟨_, _⟩, _, h⟩ := g_bd h
  exact E_rd_L35e _ h
-- 7h.house
/-! house, of both: the tape is empty behind it -/
theorem C_house {M : gM} (H : q_HT 0 M) (K : q_Kd M 2 (11, 0)) (r2 : M.2.2.2 2 0 = some 131) : Ok (F_X11_house (some 2) M) (fun r => r.2.2.1 131 6 = 0) := by
  delta F_X11_house F_X11_house_b0
  refine d_gR (q := (2, 0)) H K (by decide) rfl (fun v1 r_v1 K_v1 => ?_)
  refine c_gO K_v1 ?_
  refine Ok_b (S_X2_read (b := q_bs) H K_v1) (fun yM4 zM4 => ?_)
  obtain ⟨v3, M4⟩ := yM4
  obtain ⟨e_v3, HM4, fM4⟩ := zM4
  try dsimp only at e_v3 HM4 fM4
  have K_1 := (q_mo K (by decide) fM4)
  refine d_gR (q := (9, 0)) HM4 K_1 (by decide) rfl (fun v5 r_v5 K_v5 => ?_)
  have e5 : v5 = 131 := by
    have h := fM4.2.2.2 2 (q_kl (by rw [K.2]; decide)) 0 (by rw [K.2]; rfl)
    rw [r_v5, r2] at h
    exact Option.some.inj h
  subst e5
  refine c_pI (b := q_bs) (lo := 0) (hi := 400) HM4 K_v5 (by decide) rfl (by decide) rfl (fun M6 HM6 fM6 q_M6 o_M6 rr_M6 => ?_)
  have r_2 := (congrFun (congrFun rr_M6 _) 0).trans r_v5
  have K_6 := (q_mo K_v5 (by decide) fM6)
  have fin : ∀ {M' : gM}, q_Fr q_ba M6 M' → M'.2.1 131 6 = 0 := fun f => (f.2.2.1 131 (q_kl (by rw [K_6.2]; decide)) 6 (by rw [K_6.2]; rfl)).trans q_M6
  rcases (q_mN e_v3 (by decide) fM6) with w_4 | ⟨v3_p, w_4, KN_v3⟩
  · subst w_4
    refine Ok_t rfl ?_
    have K_5 := (q_mo K_1 (by decide) fM6)
    refine c_gRs K_5 r_2 ?_
    refine c_gIt K_6 (fun v19 q_v19 => ?_)
    exact Ok_s q_M6
  · subst w_4
    refine Ok_e (by simp) ?_
    have K_7 := (q_mo K_1 (by decide) fM6)
    refine c_pR (b := q_ba) HM6 K_7 (by decide) rfl KN_v3 rfl (fun M7 HM7 fM7 => ?_)
    have K_9 := (q_mo K_7 (by decide) fM7)
    refine d_gR (q := (8, 0)) HM7 K_9 (by decide) rfl (fun v8 r_v8 K_v8 => ?_)
    refine d_gR (q := (2, 0)) HM7 K_9 (by decide) rfl (fun v9 r_v9 K_v9 => ?_)
    refine d_gR (q := (8, 0)) HM7 K_v9 (by decide) rfl (fun v10 r_v10 K_v10 => ?_)
    refine c_gO K_v8 ?_
    refine Ok_b (S_X8_copy (b := q_ba) HM7 K_v8 K_v10) (fun M12 zM12 => ?_)
    obtain ⟨HM12, fM12⟩ := zM12
    have g_10 := q_tr fM7 fM12
    have K_11 := (q_mo K_9 (by decide) fM12)
    refine d_gR (q := (4, 0)) HM12 K_11 (by decide) rfl (fun v13 r_v13 K_v13 => ?_)
    refine c_gO K_v13 ?_
    refine Ok_b (S_X4_clear (b := q_ba) HM12 K_v13) (fun M15 zM15 => ?_)
    obtain ⟨HM15, fM15⟩ := zM15
    have g_12 := q_tr g_10 fM15
    have K_13 := (q_mo K_11 (by decide) fM15)
    refine d_gR (q := (1, 0)) HM15 K_13 (by decide) rfl (fun v16 r_v16 K_v16 => ?_)
    refine d_gI (lo := 0) (hi := 7) HM15 K_v16 (by decide) rfl (fun v17 q_v17 e_v17 => ?_)
    exact Ok_s (fin g_12)
theorem E_house_L44 : ∀ (n k : Nat) {l1 : Int32} {M : gM}, y_HT M → M.2.1 175 1 = 0 → l1.toInt = (k : Int) → k ≤ 157 → 157 - k < n → Ok (F_X12_house_L44 n (some 175) l1 M) (fun r => r.2.2.1 175 1 = 0) := by
  intro n
  induction n with
  | zero => intro k l1 M H G h h1 h2; omega
  | succ n ih =>
    intro k l1 M H G h h1 h2
    show Ok (F_X12_house_b44 (F_X12_house_L44 n) (some 175) l1 M) _
    have z : (157 : Int32).toInt = 157 := rfl
    delta F_X12_house_b44
    refine Ok_i (fun c => ?_) (fun c => ?_)
    · rw [e_pI H, Option.bind_some]
      obtain ⟨H1, f1⟩ := y_set (M' := mI M 175 25 (0 : Int32)) (S := h_C) H (i := 175) (k := 25) (by decide) rfl rfl y_mI1 (fun j a hj => y_mI2 hj) rfl (y_in (lo := 0) (hi := 20) rfl (by decide)) (by decide)
      rw [e_gR H1 (w := 185) rfl (by decide), Option.bind_some, e_aI H1 (t := 20) (i := 185) (n := 157) rfl (by decide) (by decide) (by decide), Option.bind_some]
      exact Ok_s ((mI_ne (Or.inr (by decide))).trans G)
    · have c' := i_nle c
      have cl : l1.toNatClampNeg = k := i_cl h
      rw [e_gR H (w := 185) rfl (by decide), Option.bind_some, e_gR H (w := 181) rfl (by decide), Option.bind_some, e_aI H (t := 20) (i := 181) (n := 157) rfl (by decide) (by omega) (by omega), Option.bind_some, e_sI H (i := 185) (n := 157) rfl (by omega) (by omega), Option.bind_some, cl]
      obtain ⟨H1, f1⟩ := y_set (M' := mI M 185 k (M.2.1 181 k)) (S := h_C) H (i := 185) (k := k) (by decide) rfl rfl y_mI1 (fun j a hj => y_mI2 hj) rfl (H.2.1 181 (by decide) k) (show Nat.testBit h_C 50 = true by decide)
      refine ih (k + 1) H1 ((mI_ne (Or.inl (by decide))).trans G) ?_ (by omega) (by omega)
      rw [n_inc h (by omega), i_ofNat (by omega)]
theorem Ok_r {α : Type} {o : Option α} {P : α → Prop} (h : Ok o P) : Ok o (fun a => P a ∧ o = some a) := by
  obtain ⟨a, e, p⟩ := h
  exact ⟨a, e, p, e⟩
theorem E_house_L8 : ∀ (n k : Nat) {l1 : Int32} {M : gM}, y_HT M → M.2.1 175 11 = 6 → l1.toInt = (k : Int) → k ≤ 10 → 10 - k < n → Ok (F_X12_house_L8 n (some 175) l1 M) (fun r => r.2.2.1 175 1 = 0) := by
  intro n
  induction n with
  | zero => intro k l1 M H t h h1 h2; omega
  | succ n ih =>
    intro k l1 M H t h h1 h2
    show Ok (F_X12_house_b8 (F_X12_house_L8 n) (some 175) l1 M) _
    have z : (10 : Int32).toInt = 10 := rfl
    delta F_X12_house_b8
    refine Ok_i (fun c => ?_) (fun c => ?_)
    · rw [e_gO H, Option.bind_some]
      refine Ok_b (Ok_r (P_readsAllH H t)) (fun y q => ?_)
      obtain ⟨v2, M3⟩ := y
      obtain ⟨⟨H3, F3⟩, er⟩ := q
      have e1 : M3.2.1 175 1 = 0 := E_rd_e er
      dsimp only at H3 ⊢
      refine Ok_i (fun _ => ?_) (fun _ => ?_)
      · rw [e_gI H3, Option.bind_some]
        exact Ok_s e1
      · exact E_house_L44 _ 0 H3 e1 rfl (by omega) (n_fu (by omega))
    · have c' := i_nle c
      have cl : l1.toNatClampNeg = k := i_cl h
      rw [e_gR H (w := 181) rfl (by decide), Option.bind_some, e_sI H (i := 181) (n := 157) rfl (by omega) (by omega), Option.bind_some, cl]
      obtain ⟨H1, f1⟩ := y_set (M' := mI M 181 k (0 : Int32)) (S := h_C) H (i := 181) (k := k) (v := 0) (by decide) rfl rfl y_mI1 (fun j a hj => y_mI2 hj) rfl (by
        show y_rg (y_tS k) 0
        unfold y_tS
        split
        · exact ⟨by decide, by decide⟩
        · split
          · exact ⟨by decide, by decide⟩
          · split <;> exact ⟨by decide, by decide⟩) (show Nat.testBit h_C 46 = true by decide)
      refine ih (k + 1) H1 ((mI_ne (Or.inl (by decide))).trans t) ?_ (by omega) (by omega)
      rw [n_inc h (by omega), i_ofNat (by omega)]
theorem E_house {M : gM} (H : y_HT M) : Ok (F_X12_house (some 175) M) (fun r => r.2.2.1 175 1 = 0) := by
  delta F_X12_house F_X12_house_b0
  rw [e_pI H, Option.bind_some]
  obtain ⟨H1, f1⟩ := y_set (M' := mI M 175 11 (6 : Int32)) (S := h_C) H (i := 175) (k := 11) (by decide) rfl rfl y_mI1 (fun j a hj => y_mI2 hj) rfl (y_in (lo := 0) (hi := 6) rfl (by decide)) (by decide)
  exact E_house_L8 _ 0 H1 y_mI1 rfl (by omega) (n_fu (by omega))
-- 7i.law
/-! class and reference, side by side: the same tape, as many rules -/
def lw_F (M : gM) : Prop := z_L M ∧ M.2.2.2 2 0 = some 131 ∧ M.2.2.2 2 2 = some 148
def lw_B (L : Nat) (M : gM) : Prop := ((q_HT 0 M ∧ y_HT M) ∧ y_W M) ∧ ((q_Kd M 2 (11, 0) ∧ q_Im M) ∧ g_k M 0 = (30, L)) ∧ lw_F M
def lw_tP (M : gM) : Prop := (M.2.1 132 = M.2.1 176 ∧ M.2.1 131 6 = M.2.1 175 1) ∧ M.2.1 2 12 = M.2.1 175 2 ∧ ∀ q, -128 ≤ (M.2.1 176 q).toInt ∧ (M.2.1 176 q).toInt ≤ 127
def lw_R (L : Nat) (M : gM) : Prop := lw_B L M ∧ lw_tP M
theorem lw_cs {i : Nat} : ¬ q_cs i ↔ y_cs i := by
  unfold q_cs y_cs
  omega
/-- the reference's part stands while the class works -/
theorem lw_yHT {M M' : gM} (Y : y_HT M) (hl : 197 ≤ M.1.length) (hk : ∀ i, i < M.1.length → g_k M' i = g_k M i) (hr : ∀ i, (¬ q_cs i ∨ i = 0) → M'.2.1 i = M.2.1 i ∧ M'.2.2.1 i = M.2.2.1 i ∧ M'.2.2.2 i = M.2.2.2 i) : y_HT M' := by
  have r : ∀ i, y_cs i → M'.2.1 i = M.2.1 i ∧ M'.2.2.1 i = M.2.2.1 i ∧ M'.2.2.2 i = M.2.2.2 i := fun i hi => hr i (Or.inl (lw_cs.mpr hi))
  refine ⟨⟨fun i hi => ?_, fun k hk2 => ?_⟩, fun i hi k => ?_, ?_⟩
  · rw [hk i (by have := hi.2; omega)]
    exact Y.1.1 i hi
  · rw [(r 175 (by decide)).2.2]
    exact Y.1.2 k hk2
  · rw [(r i hi).1]
    exact Y.2.1 i hi k
  · rw [(r 175 (by decide)).2.1]
    exact Y.2.2
theorem lw_yW {M M' : gM} (W : y_W M) (r : ∀ i, y_cs i → M'.2.1 i = M.2.1 i) : y_W M' := by
  have sn : ∀ t, y_sn M' t = y_sn M t := fun t => funext (fun j => congrFun (r 177 (by decide)) _)
  unfold y_W y_cl at W ⊢
  simp only [sn, r 175 (by decide), r 196 (by decide), r 194 (by decide), r 180 (by decide), r 179 (by decide)]
  exact W
/-- the class's part stands while the reference works -/
theorem lw_qHT {S : Nat} {M M' : gM} (Q : q_HT 0 M) (f : y_Fr S M M') : q_HT 0 M' := by
  obtain ⟨⟨f1, f2⟩, _, f3⟩ := f
  have hk : ∀ i, g_k M' i = g_k M i := fun i => q_k_of f1
  refine ⟨⟨by rw [f1]; exact Q.1.1, by rw [hk]; exact Q.1.2⟩, fun i hi hx k => ?_⟩
  have h9 := Q.2 i hi hx k
  rw [hk, f2, (f3 i (fun z => lw_cs.mpr z hi)).1]
  exact ⟨q_okR_mo q_tR_kd (fun j q K _ => ⟨K.1, by rw [hk]; exact K.2⟩) h9.1, h9.2⟩
theorem lw_k121 {M : gM} (Q : q_HT 0 M) (K : q_Kd M 2 (11, 0)) (I : q_Im M) : q_Kd M 121 (26, 4) := by
  have h9 := (Q.2 2 K.1 (by decide) 8).1
  rw [K.2, show q_tR (11, 0) 8 = (1, 26, 4) from rfl, I.1] at h9
  rcases h9 with (h9 | ⟨h9, j, e, Kj⟩) | (⟨h9, h2⟩ | ⟨h9, h2⟩)
  · exact absurd h9 (by simp)
  · cases e
    exact Kj
  · exact absurd h9 (by simp)
  · exact absurd h9 (by simp)
/-- what stands for ever, behind a call of the class -/
theorem lw_Bc {b : Nat → Bool} {L a : Nat} {M M' : gM} (R : lw_B L M) (H : q_HT 0 M') (f : q_Fx b a M M') (ha : 151 ≤ a) : lw_B L M' := by
  obtain ⟨⟨⟨Q, Y⟩, W⟩, ⟨⟨K, I⟩, k0⟩, ⟨⟨⟨⟨⟨l1, l2⟩, ⟨l3, l4⟩, l5⟩, ⟨l6, l7⟩, l8⟩, ⟨⟨s1, s2⟩, s3, s4⟩, ⟨s5, s6⟩, s7⟩, r0, r2⟩⟩ := R
  have hl := Q.1.1
  have r : ∀ i, y_cs i → M'.2.1 i = M.2.1 i := fun i hi => (f.2.1 i (Or.inl (lw_cs.mpr hi))).1
  have K121 := lw_k121 Q K I
  have hk := f.1.2
  have rf : ∀ i k, i < 151 → q_pR (g_k M i) k = true → M'.2.2.2 i k = M.2.2.2 i k := fun i k hi h => f.2.2.2 i (by omega) (by omega) k h
  refine ⟨⟨⟨H, lw_yHT Y hl hk f.2.1⟩, lw_yW W r⟩, ⟨⟨q_moX K (by decide) f, ?_, fun k hk2 => ?_⟩, ?_⟩, ⟨⟨⟨⟨?_, ?_⟩, ⟨?_, ?_⟩, ?_⟩, ⟨?_, ?_⟩, ?_⟩, ⟨⟨?_, ?_⟩, ?_, ?_⟩, ⟨?_, ?_⟩, ?_⟩, ?_, ?_⟩
  · rw [rf 2 8 (by decide) (by rw [K.2]; rfl)]
    exact I.1
  · rw [rf 121 k (by decide) (by rw [K121.2]; rfl)]
    exact I.2 k hk2
  · rw [hk 0 (by omega)]
    exact k0
  · rw [hk 131 (by omega)]; exact l1
  · rw [hk 132 (by omega)]; exact l2
  · rw [hk 133 (by omega)]; exact l3
  · rw [hk 134 (by omega)]; exact l4
  · rw [hk 135 (by omega)]; exact l5
  · rw [hk 148 (by omega)]; exact l6
  · rw [hk 149 (by omega)]; exact l7
  · rw [hk 150 (by omega)]; exact l8
  · rw [rf 131 0 (by decide) (by rw [l1]; rfl)]; exact s1
  · rw [rf 131 1 (by decide) (by rw [l1]; rfl)]; exact s2
  · rw [rf 131 2 (by decide) (by rw [l1]; rfl)]; exact s3
  · rw [rf 131 3 (by decide) (by rw [l1]; rfl)]; exact s4
  · rw [rf 148 0 (by decide) (by rw [l6]; rfl)]; exact s5
  · rw [rf 148 1 (by decide) (by rw [l6]; rfl)]; exact s6
  · rw [rf 148 2 (by decide) (by rw [l6]; rfl)]; exact s7
  · rw [rf 2 0 (by decide) (by rw [K.2]; rfl)]; exact r0
  · rw [rf 2 2 (by decide) (by rw [K.2]; rfl)]; exact r2
/-- and of the reference -/
theorem lw_Br {S L : Nat} {M M' : gM} (R : lw_B L M) (H : y_HT M') (f : y_Fr S M M') (W' : y_W M') : lw_B L M' := by
  obtain ⟨⟨⟨Q, Y⟩, W⟩, ⟨⟨K, I⟩, k0⟩, Z, r0, r2⟩ := R
  have hk : ∀ i, g_k M' i = g_k M i := fun i => q_k_of f.1.1
  have rr : M'.2.2.2 = M.2.2.2 := f.1.2
  refine ⟨⟨⟨lw_qHT Q f, H⟩, W'⟩, ⟨⟨⟨K.1, by rw [hk]; exact K.2⟩, by unfold q_Im; rw [rr]; exact I⟩, by rw [hk]; exact k0⟩, ?_, by rw [rr]; exact r0, by rw [rr]; exact r2⟩
  unfold z_L at Z ⊢
  simp only [hk, rr]
  exact Z
/-- what of the tape and the rules stands behind a call of the class -/
theorem lw_tc {b : Nat → Bool} {L a : Nat} {M M' : gM} (R : lw_B L M) (P : lw_tP M) (f : q_Fx b a M M') (ha : 151 ≤ a) (h1 : b 12 = true) (h2 : b 100 = true) (h3 : b 101 = true) : lw_tP M' := by
  obtain ⟨⟨⟨Q, Y⟩, W⟩, ⟨⟨K, I⟩, k0⟩, Z, r0, r2⟩ := R
  have hl := Q.1.1
  have r : ∀ i, y_cs i → M'.2.1 i = M.2.1 i := fun i hi => (f.2.1 i (Or.inl (lw_cs.mpr hi))).1
  have k1 : g_k M 131 = (9, 0) := Z.1.1.1.1
  have k2 : g_k M 132 = (22, 400) := Z.1.1.1.2
  have e132 : M'.2.1 132 = M.2.1 132 := funext (fun k => f.2.2.1 132 (by omega) (by omega) k (by rw [k2]; unfold q_pI; simp [h2]))
  have e6 : M'.2.1 131 6 = M.2.1 131 6 := f.2.2.1 131 (by omega) (by omega) 6 (by rw [k1]; unfold q_pI; simp [h3])
  have e12 : M'.2.1 2 12 = M.2.1 2 12 := f.2.2.1 2 (by omega) (by omega) 12 (by rw [K.2]; unfold q_pI; simp [h1])
  exact ⟨⟨by rw [e132, r 176 (by decide)]; exact P.1.1, by rw [e6, r 175 (by decide)]; exact P.1.2⟩, by rw [e12, r 175 (by decide)]; exact P.2.1, by rw [r 176 (by decide)]; exact P.2.2⟩
theorem lw_tr {S : Nat} {M M' : gM} (P : lw_tP M) (f : y_Fr S M M') (hS : Nat.land S (2 ^ 1 + 2 ^ 2 + 2 ^ 41) = 0) : lw_tP M' := by
  have h2 : ∀ i, ¬ y_cs i → M'.2.1 i = M.2.1 i := fun i hi => (f.2.2 i hi).1
  have e1 := y_fk (i := 175) (k := 1) f (y_dis hS (by decide))
  have e2 := y_fk (i := 175) (k := 2) f (y_dis hS (by decide))
  have e176 : M'.2.1 176 = M.2.1 176 := funext (fun q => y_fa (i := 176) f (by decide) (y_dis hS (by decide)) q)
  exact ⟨⟨by rw [h2 132 (by decide), e176]; exact P.1.1, by rw [h2 131 (by decide), e1]; exact P.1.2⟩, by rw [h2 2 (by decide), e2]; exact P.2.1, by rw [e176]; exact P.2.2⟩
theorem lw_cls {b : Nat → Bool} {L : Nat} {M M' : gM} (R : lw_R L M) (H : q_HT 0 M') (f : q_Fr b M M') (h1 : b 12 = true) (h2 : b 100 = true) (h3 : b 101 = true) : lw_R L M' := ⟨lw_Bc R.1 H (q_Fx_of (a := 151) f) (by decide), lw_tc R.1 R.2 (q_Fx_of (a := 151) f) (by decide) h1 h2 h3⟩
theorem lw_ref {S L : Nat} {M M' : gM} (R : lw_R L M) (H : y_HT M') (f : y_Fr S M M') (W' : y_W M') (hS : Nat.land S (2 ^ 1 + 2 ^ 2 + 2 ^ 41) = 0) : lw_R L M' := ⟨lw_Br R.1 H f W', lw_tr R.2 f hS⟩
theorem lw_refW {S L : Nat} {M M' : gM} (R : lw_R L M) (H : y_HT M') (f : y_Fr S M M') (hW : Nat.land S y_wb = 0) (hS : Nat.land S (2 ^ 1 + 2 ^ 2 + 2 ^ 41) = 0) : lw_R L M' := lw_ref R H f (y_Wf f hW R.1.1.2) hS
-- 7j.calls
/-! calls of both, one behind the other -/
theorem lw_xI {L : Nat} {M : gM} {j : Int32} {β : Type} {f : Int32 → Option β} {Q : β → Prop} (R : lw_B L M) (h0 : 0 ≤ j.toInt) (h1 : j.toInt < (L : Int)) (h : Ok (f (M.2.1 0 j.toNatClampNeg)) Q) : Ok ((xI M (some 0) j).bind f) Q := by
  have k0 := R.2.1.2
  unfold xI
  rw [Option.bind_some, if_pos ⟨by rw [k0], by rw [k0]; exact gin_of h0 h1⟩, Option.bind_some]
  exact h
theorem lw_xN {L : Nat} {M : gM} {β : Type} {f : Int32 → Option β} {Q : β → Prop} (R : lw_B L M) (h : Ok (f (Int32.ofNat L)) Q) : Ok ((xN M (some 0)).bind f) Q := by
  have k0 := R.2.1.2
  unfold xN
  rw [Option.bind_some, if_pos (by rw [k0]), k0, Option.bind_some]
  exact h
theorem lw_gO11 {L : Nat} {M : gM} {β : Type} {f : Nat → Option β} {Q : β → Prop} (R : lw_B L M) (h : Ok (f 2) Q) : Ok ((gO 11 M (some 2)).bind f) Q := c_gO R.2.1.1.1 h
theorem lw_gO12 {L : Nat} {M : gM} {β : Type} {f : Nat → Option β} {Q : β → Prop} (R : lw_B L M) (h : Ok (f 175) Q) : Ok ((gO 12 M (some 175)).bind f) Q := y_gO R.1.1.2 h
theorem lw_s_cls {b : Nat → Bool} {a : Nat} {M M' : gM} (f : q_Fx b a M M') : M'.2.1 0 = M.2.1 0 := (f.2.1 0 (Or.inr rfl)).1
theorem lw_s_ref {S : Nat} {M M' : gM} (f : y_Fr S M M') : M'.2.1 0 = M.2.1 0 := (f.2.2 0 (by decide)).1
theorem lw_cPI {b : Nat → Bool} {L : Nat} {lo hi : Int} {M : gM} {o : Option (Int32 × gM)} {β : Type} {f : Int32 × gM → Option β} {Q : β → Prop} (R : lw_R L M) (h1 : b 12 = true) (h2 : b 100 = true) (h3 : b 101 = true) (h : Ok o (q_PI b M lo hi)) (k : ∀ v M', lw_R L M' → M'.2.1 0 = M.2.1 0 → Ok (f (v, M')) Q) : Ok (o.bind f) Q := by
  refine Ok_b h (fun r z => ?_)
  obtain ⟨v, M'⟩ := r
  exact k v M' (lw_cls R z.2.1 z.2.2 h1 h2 h3) (lw_s_cls (q_Fx_of (a := 151) z.2.2))
theorem lw_cPX {L : Nat} {lo hi : Int} {w : Int32} {M : gM} {o : Option (Int32 × gM)} {β : Type} {f : Int32 × gM → Option β} {Q : β → Prop} (R : lw_R L M) (h : Ok o (q_PX M lo hi 2 w)) (k : ∀ v M', lw_R L M' → M'.2.1 0 = M.2.1 0 → Ok (f (v, M')) Q) : Ok (o.bind f) Q := lw_cPI (b := q_bd) R rfl rfl rfl (Ok_w h (fun _ z => z.1)) k
theorem lw_pi {lo hi : Int} {o : Option Int32} {β : Type} {f : Int32 → Option β} {Q : β → Prop} (h : Ok o (q_pi lo hi)) (k : ∀ v, Ok (f v) Q) : Ok (o.bind f) Q := Ok_b h (fun v _ => k v)
theorem lw_rPI {S L : Nat} {lo hi : Int} {M : gM} {o : Option (Int32 × gM)} {β : Type} {f : Int32 × gM → Option β} {Q : β → Prop} (R : lw_R L M) (hW : Nat.land S y_wb = 0) (hS : Nat.land S (2 ^ 1 + 2 ^ 2 + 2 ^ 41) = 0) (h : Ok o (y_PI S M lo hi)) (k : ∀ v M', lw_R L M' → M'.2.1 0 = M.2.1 0 → Ok (f (v, M')) Q) : Ok (o.bind f) Q := by
  refine Ok_b h (fun r z => ?_)
  obtain ⟨v, M'⟩ := r
  exact k v M' (lw_refW R z.2.1 z.2.2 hW hS) (lw_s_ref z.2.2)
theorem lw_rWI {S L : Nat} {lo hi : Int} {M : gM} {o : Option (Int32 × gM)} {β : Type} {f : Int32 × gM → Option β} {Q : β → Prop} (R : lw_R L M) (hS : Nat.land S (2 ^ 1 + 2 ^ 2 + 2 ^ 41) = 0) (h : Ok o (fun r => y_PI S M lo hi r ∧ y_W r.2)) (k : ∀ v M', lw_R L M' → M'.2.1 0 = M.2.1 0 → Ok (f (v, M')) Q) : Ok (o.bind f) Q := by
  refine Ok_b h (fun r z => ?_)
  obtain ⟨v, M'⟩ := r
  exact k v M' (lw_ref R z.1.2.1 z.1.2.2 z.2 hS) (lw_s_ref z.1.2.2)
/-- seed, image, back of the class -/
theorem lw_c27 {L : Nat} {l : Int32} {M : gM} {β : Type} {f : Int32 × gM → Option β} {Q : β → Prop} (R : lw_R L M) (k : ∀ v M', lw_R L M' → M'.2.1 0 = M.2.1 0 → Ok (f (v, M')) Q) : Ok ((F_X11_seed (some 2) l M).bind f) Q := by
  have K := R.1.2.1.1.1
  rw [S_X11_seed K, Option.bind_some]
  by_cases h : 0 ≤ l
  · have h' := i_le h
    have z0 : (0 : Int32).toInt = 0 := rfl
    rw [if_pos h]
    obtain ⟨H1, f1⟩ := q_seedHT (l1 := l) R.1.1.1.1 K (by omega)
    exact k _ _ (lw_cls R H1 f1 rfl rfl rfl) (lw_s_cls (q_Fx_of (a := 151) f1))
  · rw [if_neg h]
    exact k _ _ R rfl
theorem lw_cimg {L : Nat} {l : Int32} {M : gM} {β : Type} {f : Int32 × gM → Option β} {Q : β → Prop} (R : lw_R L M) (k : ∀ v M', lw_R L M' → M'.2.1 0 = M.2.1 0 → Ok (f (v, M')) Q) : Ok ((F_X11_image (some 2) l M).bind f) Q := by
  refine Ok_b (S_X11_image (l1 := l) R.1.1.1.1 R.1.2.1.1.1 R.1.2.1.1.2) (fun r z => ?_)
  obtain ⟨v, M'⟩ := r
  by_cases c : 0 ≤ l.toInt ∧ l.toInt ≤ 3
  · obtain ⟨H1, f1, _⟩ := z.2 c
    exact k v M' ⟨lw_Bc R.1 H1 f1 (by omega), lw_tc R.1 R.2 f1 (by omega) rfl rfl rfl⟩ (lw_s_cls f1)
  · have e := z.1 c
    dsimp only at e
    subst e
    exact k v _ R rfl
theorem lw_cback {L : Nat} {l : Int32} {M : gM} {β : Type} {f : Int32 × gM → Option β} {Q : β → Prop} (R : lw_R L M) (k : ∀ v M', lw_R L M' → M'.2.1 0 = M.2.1 0 → Ok (f (v, M')) Q) : Ok ((F_X11_back (some 2) l M).bind f) Q := by
  refine Ok_b (S_X11_back (l1 := l) R.1.1.1.1 R.1.2.1.1.1 R.1.2.1.1.2) (fun r z => ?_)
  obtain ⟨v, M'⟩ := r
  by_cases c : (0 ≤ l.toInt ∧ l.toInt ≤ 3) ∧ M.2.2.2 (151 + 6 * l.toNatClampNeg) 1 ≠ none
  · obtain ⟨H1, f1, _⟩ := z.2 c
    exact k v M' (lw_cls R H1 f1 rfl rfl rfl) (lw_s_cls (q_Fx_of (a := 151) f1))
  · have e := z.1 c
    dsimp only at e
    subst e
    exact k v _ R rfl
/-- and of the reference -/
theorem lw_rY {S L : Nat} {M : gM} {o : Option (Int32 × gM)} {β : Type} {f : Int32 × gM → Option β} {Q : β → Prop} {P : Int32 × gM → Prop} (R : lw_R L M) (hW : Nat.land S y_wb = 0) (hS : Nat.land S (2 ^ 1 + 2 ^ 2 + 2 ^ 41) = 0) (h : Ok o (fun r => (y_HT r.2 ∧ y_Fr S M r.2) ∧ P r)) (k : ∀ v M', lw_R L M' → M'.2.1 0 = M.2.1 0 → Ok (f (v, M')) Q) : Ok (o.bind f) Q := by
  refine Ok_b h (fun r z => ?_)
  obtain ⟨v, M'⟩ := r
  exact k v M' (lw_refW R z.1.1 z.1.2 hW hS) (lw_s_ref z.1.2)
theorem lw_rYW {S L : Nat} {M : gM} {o : Option (Int32 × gM)} {β : Type} {f : Int32 × gM → Option β} {Q : β → Prop} {P : Int32 × gM → Prop} (R : lw_R L M) (hS : Nat.land S (2 ^ 1 + 2 ^ 2 + 2 ^ 41) = 0) (h : Ok o (fun r => (y_HT r.2 ∧ y_Fr S M r.2) ∧ y_W r.2 ∧ P r)) (k : ∀ v M', lw_R L M' → M'.2.1 0 = M.2.1 0 → Ok (f (v, M')) Q) : Ok (o.bind f) Q := by
  refine Ok_b h (fun r z => ?_)
  obtain ⟨v, M'⟩ := r
  exact k v M' (lw_ref R z.1.1 z.1.2 z.2.1 hS) (lw_s_ref z.1.2)
-- 7k.both
/-! feed, end, house and rule, of both -/
theorem lw_rc {b : Nat → Bool} {a : Nat} {M M' : gM} (f : q_Fx b a M M') : ∀ i, y_cs i → M'.2.1 i = M.2.1 i := fun i hi => (f.2.1 i (Or.inl (lw_cs.mpr hi))).1
theorem lw_rr {S : Nat} {M M' : gM} (f : y_Fr S M M') : ∀ i, ¬ y_cs i → M'.2.1 i = M.2.1 i := fun i hi => (f.2.2 i hi).1
theorem lw_k2 {L : Nat} {M : gM} (R : lw_B L M) : (g_k M 2 = (11, 0) ∧ M.2.2.2 2 0 = some 131) ∧ u_Z M := ⟨⟨R.2.1.1.1.2, R.2.2.2.1⟩, ⟨⟨R.2.2.1.1.1.1.1, R.2.2.1.1.1.1.2⟩, R.2.2.1.2.1.1.1⟩⟩
def lw_2 (L : Nat) (M : gM) (o1 : Option (Int32 × gM)) (o2 : gM → Option (Int32 × gM)) : Prop := ∃ w M1 M2, (o1 = some (w, M1) ∧ lw_B L M1 ∧ M1.2.1 0 = M.2.1 0) ∧ o2 M1 = some (w, M2) ∧ lw_R L M2 ∧ M2.2.1 0 = M.2.1 0
theorem lw_n {L : Nat} {M : gM} (R : lw_R L M) : ((M.2.1 175 1).toInt = (n_s M : Int) ∧ (M.2.1 131 6).toInt = (n_s M : Int)) ∧ n_s M ≤ 400 := by
  have s1 := n_s1 R.1.1.1.2
  exact ⟨⟨s1.1, by rw [R.2.1.2]; exact s1.1⟩, s1.2⟩
theorem lw_feed {L : Nat} {v1 v2 v3 v4 v5 : Int32} {M : gM} (R : lw_R L M) : lw_2 L M (F_X11_feed (some 2) v1 v2 v3 v4 v5 M) (F_X12_feed (some 175) v1 v2 v3 v4 v5) := by
  obtain ⟨⟨n1, n2⟩, n4⟩ := lw_n R
  obtain ⟨⟨k2, r2⟩, Z⟩ := lw_k2 R.1
  obtain ⟨⟨w1, M1⟩, e1, z1, c1, c2⟩ := Ok_and (S_X11_feed (l1 := v1) (l2 := v2) (l3 := v3) (l4 := v4) (l5 := v5) R.1.1.1.1 R.1.2.1.1.1) (C_feed (v1 := v1) (v2 := v2) (v3 := v3) (v4 := v4) (v5 := v5) k2 r2 Z n2 n4)
  have f1 := q_Fx_of (a := 151) z1.2.2
  have B1 := lw_Bc R.1 z1.2.1 f1 (by decide)
  have rc := lw_rc f1
  dsimp only at f1 B1 rc c1 c2
  have m1 : (M1.2.1 175 1).toInt = (n_s M : Int) := by rw [rc 175 (by decide)]; exact n1
  obtain ⟨⟨w2, M2⟩, e2, z2, d1, d2⟩ := Ok_and (S_X12_feed (l1 := v1) (l2 := v2) (l3 := v3) (l4 := v4) (l5 := v5) B1.1.1.2) (E_feed (v1 := v1) (v2 := v2) (v3 := v3) (v4 := v4) (v5 := v5) B1.1.1.2 m1 n4)
  have f2 := z2.2.2
  have B2 := lw_Br B1 z2.2.1 f2 (y_Wf f2 (by decide) B1.1.2)
  have rr := lw_rr f2
  dsimp only at f2 B2 rr d1 d2
  have e12 : M1.2.1 2 12 = M.2.1 2 12 := f1.2.2.1 2 (by have := R.1.1.1.1.1.1; omega) (by decide) 12 (by rw [k2]; rfl)
  have es : M2.2.1 0 = M.2.1 0 := (lw_s_ref f2).trans (lw_s_cls f1)
  by_cases c : n_s M + 20 ≤ 400
  · obtain ⟨a1, a2, a3⟩ := c1 c
    obtain ⟨b1, b2, b3⟩ := d1 c
    have ew : w2 = w1 := Int32.toInt_inj.mp (by omega)
    subst ew
    refine ⟨w2, M1, M2, ⟨e1, B1, lw_s_cls f1⟩, e2, ⟨B2, ⟨⟨?_, ?_⟩, ?_, ?_⟩⟩, es⟩
    · rw [rr 132 (by decide), a2, b2, R.2.1.1, rc 176 (by decide)]
    · rw [rr 131 (by decide)]
      exact Int32.toInt_inj.mp (by omega)
    · rw [rr 2 (by decide), e12, y_fk (i := 175) (k := 2) f2 (by decide), rc 175 (by decide)]
      exact R.2.2.1
    · rw [b2]
      exact u_5_r (by rw [rc 176 (by decide)]; exact R.2.2.2)
  · have a := c2 c
    have b := d2 c
    cases a
    cases b
    exact ⟨_, M, M, ⟨e1, B1, rfl⟩, e2, R, rfl⟩
theorem lw_end {L : Nat} {l : Int32} {M : gM} (R : lw_R L M) : lw_2 L M (F_X11_end (some 2) l M) (F_X12_end (some 175) l) := by
  obtain ⟨⟨k2, r2⟩, Z⟩ := lw_k2 R.1
  have E1 := C_end (l := l) k2 r2 Z
  by_cases c0 : l < 0
  · rw [if_pos c0] at E1
    have E2 := E_end (l := l) R.1.1.1.2
    rw [if_pos c0] at E2
    exact ⟨_, M, M, ⟨E1, R.1, rfl⟩, E2, R, rfl⟩
  rw [if_neg c0] at E1
  by_cases c1 : l ≤ M.2.1 131 6
  · rw [if_pos c1] at E1
    obtain ⟨⟨w1, M1⟩, e1, z1⟩ := S_X11_end (l1 := l) R.1.1.1.1 R.1.2.1.1.1
    have e1' := e1.symm.trans E1
    cases e1'
    have f1 := q_Fx_of (a := 151) z1.2.2
    have B1 := lw_Bc R.1 z1.2.1 f1 (by decide)
    have rc := lw_rc f1
    dsimp only at f1 B1 rc
    have E2 := E_end (l := l) B1.1.1.2
    rw [if_neg c0, if_pos (by rw [rc 175 (by decide), ← R.2.1.2]; exact c1)] at E2
    obtain ⟨⟨w2, M2⟩, e2, z2⟩ := S_X12_end (l1 := l) B1.1.1.2
    have e2' := e2.symm.trans E2
    cases e2'
    have f2 := z2.2.2
    have B2 := lw_Br B1 z2.2.1 f2 (y_Wf f2 (by decide) B1.1.2)
    dsimp only at f2 B2
    refine ⟨_, _, _, ⟨E1, B1, lw_s_cls f1⟩, E2, ⟨B2, ⟨⟨?_, ?_⟩, ?_, ?_⟩⟩, (lw_s_ref f2).trans (lw_s_cls f1)⟩
    · exact R.2.1.1
    · rw [y_mI1, mI_ne (Or.inl (by decide)), y_mI1]
    · exact R.2.2.1
    · exact R.2.2.2
  · rw [if_neg c1] at E1
    have E2 := E_end (l := l) R.1.1.1.2
    rw [if_neg c0, if_neg (by rw [← R.2.1.2]; exact c1)] at E2
    exact ⟨_, M, M, ⟨E1, R.1, rfl⟩, E2, R, rfl⟩
/-- house: what it answers is not asked here -/
theorem lw_house {L : Nat} {M : gM} (R : lw_R L M) : ∃ w1 w2 M1 M2, (F_X11_house (some 2) M = some (w1, M1) ∧ lw_B L M1 ∧ M1.2.1 0 = M.2.1 0) ∧ F_X12_house (some 175) M1 = some (w2, M2) ∧ lw_R L M2 ∧ M2.2.1 0 = M.2.1 0 := by
  obtain ⟨⟨k2, r2⟩, Z⟩ := lw_k2 R.1
  obtain ⟨⟨w1, M1⟩, e1, z1, c1⟩ := Ok_and (S_X11_house R.1.1.1.1 R.1.2.1.1.1) (C_house R.1.1.1.1 R.1.2.1.1.1 r2)
  have f1 := q_Fx_of (a := 151) z1.2.2
  have B1 := lw_Bc R.1 z1.2.1 f1 (by decide)
  have rc := lw_rc f1
  dsimp only at f1 B1 rc c1
  obtain ⟨⟨w2, M2⟩, e2, z2, d1⟩ := Ok_and (S_X12_house B1.1.1.2) (E_house B1.1.1.2)
  have f2 := z2.2
  have B2 := lw_Br B1 z2.1 f2 (y_Wf f2 (by decide) B1.1.2)
  have rr := lw_rr f2
  dsimp only at f2 B2 rr d1
  have hl := R.1.1.1.1.1.1
  have e12 : M1.2.1 2 12 = M.2.1 2 12 := f1.2.2.1 2 (by omega) (by decide) 12 (by rw [k2]; rfl)
  have e132 : M1.2.1 132 = M.2.1 132 := funext (fun k => f1.2.2.1 132 (by omega) (by decide) k (by rw [Z.1.2]; rfl))
  have e176 : M2.2.1 176 = M1.2.1 176 := funext (fun q => y_fa (i := 176) f2 (by decide) (by decide) q)
  refine ⟨w1, w2, M1, M2, ⟨e1, B1, lw_s_cls f1⟩, e2, ⟨B2, ⟨⟨?_, ?_⟩, ?_, ?_⟩⟩, (lw_s_ref f2).trans (lw_s_cls f1)⟩
  · rw [rr 132 (by decide), e132, e176, rc 176 (by decide)]
    exact R.2.1.1
  · rw [rr 131 (by decide), c1, d1]
  · rw [rr 2 (by decide), e12, y_fk (i := 175) (k := 2) f2 (by decide), rc 175 (by decide)]
    exact R.2.2.1
  · rw [e176, rc 176 (by decide)]
    exact R.2.2.2
theorem C_rule6 {M : gM} (H : q_HT 0 M) (K : q_Kd M 2 (11, 0)) (h : (M.2.1 2 12).toInt = 6) : Ok (F_X11_rule (some 2) M) (fun r => r = (-1, M)) := by
  delta F_X11_rule F_X11_rule_b0
  refine d_gI (lo := 0) (hi := 6) H K (by decide) rfl (fun v1 q1 e1 => ?_)
  refine d_gR (q := (25, 6)) H K (by decide) rfl (fun v2 rr2 K2 => ?_)
  refine c_aN K2 (by decide) (by decide) (fun v3 e3 => ?_)
  refine Ok_e (fun z => ?_) (Ok_s rfl)
  have z := i_lt z
  rw [q1] at h
  omega
theorem E_rule6 {M : gM} (H : y_HT M) (h : (M.2.1 175 2).toInt = 6) : F_X12_rule (some 175) M = some (-1, M) := by
  delta F_X12_rule F_X12_rule_b0
  rw [e_gI H, Option.bind_some, if_pos (Int32.toInt_inj.mp h)]
theorem lw_rule {L : Nat} {M : gM} (R : lw_R L M) : lw_2 L M (F_X11_rule (some 2) M) (F_X12_rule (some 175)) := by
  obtain ⟨⟨n1, n2⟩, n4⟩ := lw_n R
  obtain ⟨⟨k2, r2⟩, Z⟩ := lw_k2 R.1
  by_cases c6 : (M.2.1 2 12).toInt = 6
  · obtain ⟨r, e1, er⟩ := C_rule6 R.1.1.1.1 R.1.2.1.1.1 c6
    subst er
    have E2 := E_rule6 R.1.1.1.2 (by rw [← R.2.2.1]; exact c6)
    exact ⟨_, M, M, ⟨e1, R.1, rfl⟩, E2, R, rfl⟩
  have B : z_B M := ⟨R.2.2.2, n4⟩
  obtain ⟨⟨w1, M1⟩, e1, z1, ⟨c1, c2⟩, c3⟩ := Ok_and (S_X11_rule R.1.1.1.1 R.1.2.1.1.1) (C_rule (T := M) R.1.1.1.1 R.1.2.1.1.1 ⟨⟨R.1.2.2.1, B⟩, R.2.1.1, n2⟩ R.1.2.2.2 c6)
  have f1 := q_Fx_of (a := 151) z1.2.2
  have B1 := lw_Bc R.1 z1.2.1 f1 (by decide)
  have rc := lw_rc f1
  dsimp only at f1 B1 rc c1 c2 c3
  obtain ⟨⟨w2, M2⟩, e2, z2, d1, d3⟩ := Ok_and (S_X12_rule B1.1.1.2 B1.1.2) (E_rule (T := M) B B1.1.1.2 (rc 176 (by decide)) (by unfold n_s; rw [rc 175 (by decide)]) (by rw [rc 175 (by decide), ← R.2.2.1]; exact c6))
  have f2 := z2.1.2
  have B2 := lw_Br B1 z2.1.1 f2 z2.2
  have rr := lw_rr f2
  dsimp only at f2 B2 rr d1 d3
  have e176 : M2.2.1 176 = M1.2.1 176 := funext (fun q => y_fa (i := 176) f2 (by decide) (by decide) q)
  have same : w2 = w1 ∧ M1.2.1 2 12 = M2.2.1 175 2 := by
    have q2 : M1.2.1 175 2 = M.2.1 2 12 := by rw [rc 175 (by decide)]; exact R.2.2.1.symm
    generalize s_text M = t at c3 d3
    cases t with
    | inl e =>
      obtain ⟨⟨u, a1, a2⟩, a3⟩ := c3
      obtain ⟨⟨u2, b1, b2⟩, b3⟩ := d3
      have : u2 = u := Int32.toInt_inj.mp (by omega)
      exact ⟨by rw [a1, b1, this], by rw [a3, b3, q2]⟩
    | inr y =>
      obtain ⟨a1, a3⟩ := c3
      obtain ⟨b1, b3⟩ := d3
      exact ⟨by rw [a1, b1, q2], Int32.toInt_inj.mp (by rw [a3, b3, q2])⟩
  obtain ⟨ew, e2r⟩ := same
  subst ew
  refine ⟨w2, M1, M2, ⟨e1, B1, lw_s_cls f1⟩, e2, ⟨B2, ⟨⟨?_, ?_⟩, ?_, ?_⟩⟩, (lw_s_ref f2).trans (lw_s_cls f1)⟩
  · rw [rr 132 (by decide), c2, e176, rc 176 (by decide)]
    exact R.2.1.1
  · rw [rr 131 (by decide), c1, d1]
  · rw [rr 2 (by decide)]
    exact e2r
  · rw [e176, rc 176 (by decide)]
    exact R.2.2.2
-- 7l.first
/-! the memory behind both constructors keeps all this -/
def f_K (i : Nat) : Nat × Nat := (g_K0 0).getD i (99, 0)
theorem f_Kof {L : Nat} {xs : Nat → Int32} {i : Nat} (hi : i ≠ 0) : g_k (g_Mc L xs) i = f_K i := by
  unfold g_k g_Mc f_K
  rw [KC_510]
  cases i with
  | zero => exact absurd rfl hi
  | succ i => rfl
theorem f_K0 {L : Nat} {xs : Nat → Int32} : g_k (g_Mc L xs) 0 = (30, L) := by
  unfold g_k g_Mc
  rw [KC_510]
  rfl
/-- kinds of things that hold places -/
def f_ob (q : Nat × Nat) : Bool := q.1 < 12 || (24 ≤ q.1 && q.1 < 27 && q.2 ≤ 40)
def f_okR (s : Nat × Nat × Nat) (r : Option Nat) : Bool := s.1 == 0 || ((s.1 == 1 && (match r with | some j => j < 175 && j != 0 && f_K j == s.2 | none => false)) || ((s.1 == 2 && (match r with | some j => j < 175 && j != 0 && f_K j == s.2 | none => true)) || (s.1 == 3 && (match r with | some j => j < 175 && j != 0 && (f_K j).1 == s.2.1 && (f_K j).2 ≤ 400 | none => false))))
def f_okI (p : Int × Int) (v : Int32) : Bool := p.1 ≤ v.toInt && v.toInt ≤ p.2
def f_ok1 (i : Nat) : Bool := (!f_ob (f_K i) && 12 ≤ (f_K i).1 && ((f_K i).1 < 24 || 27 ≤ (f_K i).1)) || (f_ob (f_K i) && (List.range 40).all (fun k => f_okR (q_tR (f_K i) k) (RC_510 i k) && f_okI (q_tI (f_K i) k) (IC_509 i k)))
set_option maxRecDepth 100000 in
theorem f_all : (List.range 175).all (fun i => i == 0 || i == 1 || f_ok1 i) = true := by decide +kernel
theorem f_okR_of {L : Nat} {xs : Nat → Int32} {s : Nat × Nat × Nat} {r : Option Nat} (h : f_okR s r = true) : q_okR (g_Mc L xs) s r := by
  obtain ⟨a, t⟩ := s
  have kd : ∀ j : Nat, j < 175 → j ≠ 0 → q_Kd (g_Mc L xs) j (f_K j) := fun j h1 h2 => ⟨Or.inl h1, f_Kof h2⟩
  unfold f_okR at h
  rw [Bool.or_eq_true, Bool.or_eq_true, Bool.or_eq_true] at h
  rcases h with h | h | h | h
  · exact Or.inl (Or.inl (by simpa using h))
  · cases r with
    | none => simp at h
    | some j =>
      simp at h
      obtain ⟨h1, ⟨h2, h3⟩, h4⟩ := h
      exact Or.inl (Or.inr ⟨h1, j, rfl, by show q_Kd _ j t; rw [← h4]; exact kd j h2 h3⟩)
  · cases r with
    | none =>
      simp at h
      exact Or.inr (Or.inl ⟨h, Or.inl rfl⟩)
    | some j =>
      simp at h
      obtain ⟨h1, ⟨h2, h3⟩, h4⟩ := h
      exact Or.inr (Or.inl ⟨h1, Or.inr ⟨j, rfl, by show q_Kd _ j t; rw [← h4]; exact kd j h2 h3⟩⟩)
  · cases r with
    | none => simp at h
    | some j =>
      simp at h
      obtain ⟨h1, ⟨⟨h2, h3⟩, h4⟩, h5⟩ := h
      exact Or.inr (Or.inr ⟨h1, j, (f_K j).2, rfl, by show q_Kd _ j (t.1, (f_K j).2); rw [← h4]; exact kd j h2 h3, h5⟩)
theorem f_big {q : Nat × Nat} {k : Nat} (h : f_ob q = true) (hk : 40 ≤ k) : (q_tR q k).1 = 0 ∧ q_tI q k = (-2147483648, 2147483647) := by
  obtain ⟨a, b⟩ := q
  unfold f_ob at h
  simp at h
  constructor
  · unfold q_tR
    dsimp only
    split <;> first | omega | (rw [if_neg (by omega)]) | rfl
  · unfold q_tI
    dsimp only
    split <;> first | omega | rfl
theorem f_kbig {i : Nat} (h : 197 ≤ i) : f_K i = (99, 0) := by
  unfold f_K
  have e : (g_K0 0)[i]? = none := List.getElem?_eq_none (by show 197 ≤ i; exact h)
  rw [List.getD_eq_getElem?_getD, e]
  rfl
theorem f_qHT (L : Nat) (xs : Nat → Int32) : q_HT 0 (g_Mc L xs) := by
  refine ⟨⟨by show 197 ≤ (MC_510 L xs).1.length; rw [LN_510]; exact Nat.le_refl _, by rw [f_K0]⟩, fun i hi hx k => ?_⟩
  rw [f_Kof hx]
  have other : 12 ≤ (f_K i).1 → ((f_K i).1 < 24 ∨ 27 ≤ (f_K i).1) → q_okR (g_Mc L xs) (q_tR (f_K i) k) ((g_Mc L xs).2.2.2 i k) ∧ ((q_tI (f_K i) k).1 ≤ ((g_Mc L xs).2.1 i k).toInt ∧ ((g_Mc L xs).2.1 i k).toInt ≤ (q_tI (f_K i) k).2) := by
    intro h1 h2
    rw [q_tR_none h1 h2, q_tI_full h1]
    exact ⟨Or.inl (Or.inl rfl), i_rng _⟩
  rcases hi with hi | hi
  · by_cases h1 : i = 1
    · subst h1
      exact other (by decide) (Or.inr (by decide))
    · have h9 := List.all_eq_true.mp f_all i (List.mem_range.mpr hi)
      have h8 : f_ok1 i = true := by
        simp [hx, h1] at h9
        exact h9
      unfold f_ok1 at h8
      rw [Bool.or_eq_true] at h8
      rcases h8 with h8 | h8
      · simp at h8
        exact other h8.1.2 h8.2
      · rw [Bool.and_eq_true] at h8
        obtain ⟨ho, ha⟩ := h8
        rcases Nat.lt_or_ge k 40 with hk | hk
        · have h7 := List.all_eq_true.mp ha k (List.mem_range.mpr hk)
          rw [Bool.and_eq_true] at h7
          refine ⟨?_, ?_⟩
          · have := f_okR_of (L := L) (xs := xs) h7.1
            rw [← RR_510 L xs] at this
            exact this
          · have := h7.2
            unfold f_okI at this
            simp at this
            rw [← II_510 L xs i hx] at this
            exact this
        · obtain ⟨b1, b2⟩ := f_big (q := f_K i) (k := k) ho hk
          rw [b2]
          exact ⟨Or.inl (Or.inl b1), i_rng _⟩
  · have e := f_kbig hi
    exact other (by rw [e]; decide) (by rw [e]; exact Or.inr (by decide))
def f_y1 : Bool := (List.range 22).all (fun j => f_K (175 + j) == y_kd (175 + j)) && (List.range 40).all (fun k => y_rf k == 0 || RC_510 175 k == some (y_rf k)) && (List.range 40).all (fun k => f_okI (y_tO k) (IC_509 175 k))
set_option maxRecDepth 100000 in
theorem f_y1_ok : f_y1 = true := by decide +kernel
theorem f_z0 {L : Nat} {xs : Nat → Int32} : ∀ {i : Nat}, 176 ≤ i → i ≤ 196 → ∀ k, (g_Mc L xs).2.1 i k = 0 := by
  intro i h1 h2 k
  have e : (g_Mc L xs).2.1 i = IC_509 i := II_510 L xs i (by omega)
  rw [e]
  rcases (by omega : i = 176 ∨ i = 177 ∨ i = 178 ∨ i = 179 ∨ i = 180 ∨ i = 181 ∨ i = 182 ∨ i = 183 ∨ i = 184 ∨ i = 185 ∨ i = 186 ∨ i = 187 ∨ i = 188 ∨ i = 189 ∨ i = 190 ∨ i = 191 ∨ i = 192 ∨ i = 193 ∨ i = 194 ∨ i = 195 ∨ i = 196) with h | h | h | h | h | h | h | h | h | h | h | h | h | h | h | h | h | h | h | h | h <;> subst h <;> rfl
theorem f_tS0 {k : Nat} : y_rg (y_tS k) 0 := by
  unfold y_tS
  split
  · exact ⟨by decide, by decide⟩
  · split
    · exact ⟨by decide, by decide⟩
    · split <;> exact ⟨by decide, by decide⟩
theorem f_yHT (L : Nat) (xs : Nat → Int32) : y_HT (g_Mc L xs) := by
  have h := f_y1_ok
  unfold f_y1 at h
  rw [Bool.and_eq_true, Bool.and_eq_true] at h
  obtain ⟨⟨hk, hr⟩, hi⟩ := h
  refine ⟨⟨fun i hi2 => ?_, fun k hk2 => ?_⟩, fun i hi2 k => ?_, ?_⟩
  · rw [f_Kof (by have := hi2.1; omega)]
    have := List.all_eq_true.mp hk (i - 175) (List.mem_range.mpr (by have := hi2.2; omega))
    rw [show 175 + (i - 175) = i by have := hi2.1; omega] at this
    simpa using this
  · rcases Nat.lt_or_ge k 40 with h1 | h1
    · have := List.all_eq_true.mp hr k (List.mem_range.mpr h1)
      simp [hk2] at this
      show (MC_510 L xs).2.2.2 175 k = _
      rw [RR_510]
      exact this
    · exfalso
      apply hk2
      unfold y_rf
      split <;> first | omega | rfl
  · rcases Nat.lt_or_ge i 176 with h1 | h1
    · have e : i = 175 := by have := hi2.1; omega
      subst e
      show y_rg (y_tO k) _
      rcases Nat.lt_or_ge k 40 with h2 | h2
      · have := List.all_eq_true.mp hi k (List.mem_range.mpr h2)
        unfold f_okI at this
        simp at this
        rw [← II_510 L xs 175 (by decide)] at this
        exact this
      · refine y_full ?_
        unfold y_tO
        split <;> first | omega | rfl
    · rw [f_z0 h1 hi2.2 k]
      have z0 : (0 : Int32).toInt = 0 := rfl
      unfold y_tI
      split <;> first | exact f_tS0 | exact ⟨by decide, by decide⟩ | (exfalso; omega)
  · show 0 ≤ ((MC_510 L xs).2.2.1 175 32).toInt ∧ ((MC_510 L xs).2.2.1 175 32).toInt < 2147483648
    rw [LL_510]
    decide
def f_y2 : Bool := IC_509 175 2 == 0 && IC_509 175 21 == -1 && IC_509 2 12 == 0 && IC_509 175 1 == 0 && IC_509 131 6 == 0 && RC_510 2 8 == some 121 && f_K 2 == (11, 0) && (List.range 4).all (fun k => RC_510 121 k == some (151 + 6 * k))
def f_y3 : Bool := (f_K 131 == (9, 0) && f_K 132 == (22, 400) && f_K 133 == (20, 401) && f_K 134 == (20, 401) && f_K 135 == (20, 401) && f_K 148 == (7, 0) && f_K 149 == (20, 400) && f_K 150 == (20, 36)) && (RC_510 131 0 == some 132 && RC_510 131 1 == some 133 && RC_510 131 2 == some 134 && RC_510 131 3 == some 135 && RC_510 148 0 == some 131 && RC_510 148 1 == some 149 && RC_510 148 2 == some 150 && RC_510 2 0 == some 131 && RC_510 2 2 == some 148)
set_option maxRecDepth 100000 in
theorem f_y2_ok : f_y2 = true := by decide +kernel
set_option maxRecDepth 100000 in
theorem f_y3_ok : f_y3 = true := by decide +kernel
theorem f_132 {L : Nat} {xs : Nat → Int32} : ∀ k, (g_Mc L xs).2.1 132 k = 0 := by
  intro k
  have e : (g_Mc L xs).2.1 132 = IC_509 132 := II_510 L xs 132 (by decide)
  rw [e]
  rfl
theorem lw_first (L : Nat) (xs : Nat → Int32) : lw_R L (g_Mc L xs) := by
  have h := f_y2_ok
  unfold f_y2 at h
  simp only [Bool.and_eq_true, beq_iff_eq] at h
  obtain ⟨⟨⟨⟨⟨⟨⟨h1, h2⟩, h3⟩, h4⟩, h5⟩, h6⟩, h7⟩, h8⟩ := h
  have g := f_y3_ok
  unfold f_y3 at g
  simp only [Bool.and_eq_true, beq_iff_eq] at g
  obtain ⟨⟨⟨⟨⟨⟨⟨⟨g1, g2⟩, g3⟩, g4⟩, g5⟩, g6⟩, g7⟩, g8⟩, ⟨⟨⟨⟨⟨⟨⟨r1, r2⟩, r3⟩, r4⟩, r5⟩, r6⟩, r7⟩, r8⟩, r9⟩ := g
  have i : ∀ {a b : Nat}, a ≠ 0 → (g_Mc L xs).2.1 a b = IC_509 a b := fun h => congrFun (II_510 L xs _ h) _
  have r : ∀ {a b : Nat}, (g_Mc L xs).2.2.2 a b = RC_510 a b := fun {a b} => congrFun (congrFun (RR_510 L xs) a) b
  have k : ∀ {a : Nat}, a ≠ 0 → g_k (g_Mc L xs) a = f_K a := fun h => f_Kof h
  have h9 : ∀ k, k < 4 → RC_510 121 k = some (151 + 6 * k) := by
    intro k hk
    have := List.all_eq_true.mp h8 k (List.mem_range.mpr hk)
    simp only [beq_iff_eq] at this
    exact this
  have z0 : (0 : Int32).toInt = 0 := rfl
  refine ⟨⟨⟨⟨f_qHT L xs, f_yHT L xs⟩, ⟨⟨?_, fun k hk hn => ?_⟩, fun t c ht hc => ?_⟩⟩, ⟨⟨⟨Or.inl (by decide), by rw [f_Kof (by decide), h7]⟩, ⟨by rw [r, h6], fun k hk => by rw [r]; exact h9 k hk⟩⟩, f_K0⟩, ⟨⟨⟨⟨?_, ?_⟩, ⟨?_, ?_⟩, ?_⟩, ⟨?_, ?_⟩, ?_⟩, ⟨⟨?_, ?_⟩, ?_, ?_⟩, ⟨?_, ?_⟩, ?_⟩, ?_, ?_⟩, ⟨⟨?_, ?_⟩, ?_, fun q => ?_⟩⟩
  · rw [i (by decide), i (by decide), h1, h2]
    decide
  · exact absurd (f_z0 (by decide) (by decide) k) hn
  · rw [i (by decide), h1] at ht
    omega
  · rw [k (by decide), g1]
  · rw [k (by decide), g2]
  · rw [k (by decide), g3]
  · rw [k (by decide), g4]
  · rw [k (by decide), g5]
  · rw [k (by decide), g6]
  · rw [k (by decide), g7]
  · rw [k (by decide), g8]
  · rw [r, r1]
  · rw [r, r2]
  · rw [r, r3]
  · rw [r, r4]
  · rw [r, r5]
  · rw [r, r6]
  · rw [r, r7]
  · rw [r, r8]
  · rw [r, r9]
  · exact funext (fun q => (f_132 q).trans (f_z0 (by decide) (by decide) q).symm)
  · rw [i (by decide), i (by decide), h4, h5]
  · rw [i (by decide), i (by decide), h1, h3]
  · rw [f_z0 (by decide) (by decide) q]
    omega
-- 7m.exact
/-! the reference's image and back, and force of both: what they leave, exactly -/
theorem E_image_L43 {l1 : Int32} {n : Nat} (hl : l1.toInt = (n : Int)) (hn : n ≤ 3) : ∀ (fuel j : Nat) {l2 : Int32} {M : gM}, y_HT M → l2.toInt = (j : Int) → j ≤ 157 → 157 - j < fuel → Ok (F_X12_image_L43 fuel (some 175) l1 l2 M) (fun r => (y_HT r.2 ∧ y_Fr 288230376151711744 M r.2) ∧ r.1 = M.2.1 185 4 ∧ ∀ k, r.2.2.1 193 k = if 157 * n + j ≤ k ∧ k < 157 * n + 157 then M.2.1 185 (k - 157 * n) else M.2.1 193 k) := by
  intro fuel
  induction fuel with
  | zero => intro j l2 M H h2 hj hf; omega
  | succ fuel ih =>
    intro j l2 M H h2 hj hf
    show Ok (F_X12_image_b43 (F_X12_image_L43 fuel) (some 175) l1 l2 M) _
    delta F_X12_image_b43
    refine Ok_i (fun c => ?_) (fun c => ?_)
    · have c := i_le c
      rw [L2_157] at c
      refine y_gR (w := 185) H rfl (by decide) ?_
      refine y_aI H (i := 185) (n := 157) rfl (by decide) (by decide) (by decide) (fun v2 q2 => ?_)
      refine Ok_s ⟨⟨H, y_rf0 _ _⟩, q2.symm, fun k => ?_⟩
      rw [if_neg (by omega)]
    · replace c := i_nle c
      rw [L2_157] at c
      have a := i_addc (x := l2) (c := (1 : Int32)) (n := 1) rfl (by omega) (by omega)
      have a1 := i_mulL (c := (157 : Int32)) (x := l1) (n := 157) rfl (by omega) (by omega)
      have a2 := i_add (x := (157 : Int32) * l1) (y := l2) (by omega) (by omega)
      have e1 : ((157 : Int32) * l1 + l2).toNatClampNeg = 157 * n + j := i_cl (by omega)
      have e2 : l2.toNatClampNeg = j := i_cl h2
      refine y_gR (w := 193) H rfl (by decide) ?_
      refine y_gR (w := 185) H rfl (by decide) ?_
      refine y_aI H (i := 185) (n := 157) rfl (by decide) (by omega) (by omega) (fun v5 q5 => ?_)
      refine y_sI (S := 288230376151711744) H (i := 193) (n := 628) rfl (by omega) (by omega) (y_mv H (by decide) q5 (y_md (u := l1.toInt) (by omega) (by omega) (by omega))) (by decide) (fun M6 H6 f6 q6 o6 l6 => ?_)
      rw [e1] at q6 o6
      rw [e2] at q5
      refine Ok_w (ih (j + 1) H6 (by omega) (by omega) (by omega)) (fun r z => ?_)
      obtain ⟨⟨Hr, fr⟩, r1, rk⟩ := z
      refine ⟨⟨Hr, y_tr f6 fr⟩, by rw [r1, o6 _ _ (Or.inl (by decide))], fun k => ?_⟩
      rw [rk k]
      by_cases ck : k = 157 * n + j
      · subst ck
        rw [if_neg (by omega), if_pos (by omega), q6, ← q5, show 157 * n + j - 157 * n = j by omega]
      · by_cases c2 : 157 * n + (j + 1) ≤ k ∧ k < 157 * n + 157
        · rw [if_pos c2, if_pos (by omega), o6 _ _ (Or.inl (by decide))]
        · rw [if_neg c2, if_neg (by omega), o6 _ _ (Or.inr ck)]
theorem E_image {l1 : Int32} {M : gM} (H : y_HT M) : Ok (F_X12_image (some 175) l1 M) (fun r => (¬ (0 ≤ l1.toInt ∧ l1.toInt ≤ 3) → r = (-1, M)) ∧ ∀ n : Nat, l1.toInt = (n : Int) → n ≤ 3 → (r.1 = M.2.1 185 4 ∧ ∀ k, r.2.2.1 193 k = if 157 * n ≤ k ∧ k < 157 * n + 157 then M.2.1 185 (k - 157 * n) else M.2.1 193 k) ∧ r.2.2.1 194 n = M.2.1 175 21 ∧ ∀ a, a ≠ n → r.2.2.1 194 a = M.2.1 194 a) := by
  delta F_X12_image F_X12_image_b0
  refine Ok_b (S_X12_in' (lo := 0) (hi := 3) rfl rfl) (fun v1 e1 => ?_)
  refine Ok_i (fun c => ?_) (fun c => ?_)
  · have hn : ¬ (0 ≤ l1.toInt ∧ l1.toInt ≤ 3) := e1.2.2 (by rw [c]; rfl)
    exact Ok_s ⟨fun _ => rfl, fun n h1 h2 => by omega⟩
  · have h := e1.2.1 (i_ne c)
    obtain ⟨m, hm⟩ : ∃ m : Nat, l1.toInt = (m : Int) := ⟨l1.toInt.toNat, by omega⟩
    have e2 : l1.toNatClampNeg = m := i_cl hm
    refine y_gR (w := 196) H rfl (by decide) ?_
    refine y_sZ (S := 4323455642275676160) H (by omega) (by omega) (Or.inr rfl) (by decide) (fun M3 H3 f3 q3 o3 => ?_)
    refine y_gR (w := 194) H3 rfl (by decide) ?_
    refine y_gI (lo := -1) (hi := 5) H3 rfl (fun v5 q5 e5 => ?_)
    refine y_sI (S := 4323455642275676160) H3 (i := 194) (n := 4) rfl (by omega) (by omega) (y_in (lo := -1) (hi := 5) rfl e5) (by decide) (fun M6 H6 f6 q6 o6 l6 => ?_)
    refine y_gR (w := 195) H6 rfl (by decide) ?_
    refine y_gI (lo := 0) (hi := 2147483647) H6 rfl (fun v8 q8 e8 => ?_)
    refine y_sI (S := 4323455642275676160) H6 (i := 195) (n := 4) rfl (by omega) (by omega) (y_in (lo := 0) (hi := 2147483647) rfl e8) (by decide) (fun M9 H9 f9 q9 o9 l9 => ?_)
    rw [e2] at q6 o6
    refine Ok_w (E_image_L43 hm (by omega) g_fuel 0 H9 rfl (by decide) (by decide)) (fun r z => ?_)
    obtain ⟨⟨H10, f10⟩, z1, z2⟩ := z
    have b194 := y_fa (i := 194) f10 (by decide) (by decide)
    have e21 : M.2.1 175 21 = v5 := by rw [← q5, o3 _ _ (Or.inl (by decide))]
    refine ⟨fun hn => absurd h hn, fun n hl _ => ?_⟩
    have : n = m := by omega
    subst this
    refine ⟨⟨?_, fun k => ?_⟩, ?_, fun a ha => ?_⟩
    · rw [z1, o9 _ _ (Or.inl (by decide)), o6 _ _ (Or.inl (by decide)), o3 _ _ (Or.inl (by decide))]
    · rw [z2 k, o9 193 _ (Or.inl (by decide)), o6 193 _ (Or.inl (by decide)), o3 193 _ (Or.inl (by decide)), o9 185 _ (Or.inl (by decide)), o6 185 _ (Or.inl (by decide)), o3 185 _ (Or.inl (by decide))]
      rfl
    · rw [b194, o9 _ _ (Or.inl (by decide)), q6, e21]
    · rw [b194, o9 _ _ (Or.inl (by decide)), o6 _ _ (Or.inr ha), o3 _ _ (Or.inl (by decide))]
theorem E_back_L50 {l1 : Int32} {n : Nat} (hl : l1.toInt = (n : Int)) (hn : n ≤ 3) : ∀ (fuel j : Nat) {l2 : Int32} {M : gM}, y_HT M → l2.toInt = (j : Int) → j ≤ 157 → 157 - j < fuel → Ok (F_X12_back_L50 fuel (some 175) l1 l2 M) (fun r => (y_HT r.2 ∧ y_Fr 1125899906842624 M r.2) ∧ (r.1 = r.2.2.1 185 4) ∧ ∀ k, r.2.2.1 185 k = if j ≤ k ∧ k < 157 then M.2.1 193 (157 * n + k) else M.2.1 185 k) := by
  intro fuel
  induction fuel with
  | zero => intro j l2 M H h2 hj hf; omega
  | succ fuel ih =>
    intro j l2 M H h2 hj hf
    show Ok (F_X12_back_b50 (F_X12_back_L50 fuel) (some 175) l1 l2 M) _
    delta F_X12_back_b50
    refine Ok_i (fun c => ?_) (fun c => ?_)
    · have c := i_le c
      rw [L2_157] at c
      refine y_gR (w := 185) H rfl (by decide) ?_
      refine y_aI H (i := 185) (n := 157) rfl (by decide) (by decide) (by decide) (fun v2 q2 => ?_)
      refine Ok_s ⟨⟨H, y_rf0 _ _⟩, q2.symm, fun k => ?_⟩
      rw [if_neg (by omega)]
    · replace c := i_nle c
      rw [L2_157] at c
      have a := i_addc (x := l2) (c := (1 : Int32)) (n := 1) rfl (by omega) (by omega)
      have a1 := i_mulL (c := (157 : Int32)) (x := l1) (n := 157) rfl (by omega) (by omega)
      have a2 := i_add (x := (157 : Int32) * l1) (y := l2) (by omega) (by omega)
      have e1 : ((157 : Int32) * l1 + l2).toNatClampNeg = 157 * n + j := i_cl (by omega)
      have e2 : l2.toNatClampNeg = j := i_cl h2
      refine y_gR (w := 185) H rfl (by decide) ?_
      refine y_gR (w := 193) H rfl (by decide) ?_
      refine y_aI H (i := 193) (n := 628) rfl (by decide) (by omega) (by omega) (fun v5 q5 => ?_)
      refine y_sI (S := 1125899906842624) H (i := 185) (n := 157) rfl (by omega) (by omega) (y_mv H (by decide) q5 (y_md (u := l1.toInt) (by omega) (by omega) (by omega)).symm) (by decide) (fun M6 H6 f6 q6 o6 l6 => ?_)
      rw [e2] at q6 o6
      rw [e1] at q5
      refine Ok_w (ih (j + 1) H6 (by omega) (by omega) (by omega)) (fun r z => ?_)
      obtain ⟨⟨Hr, fr⟩, r1, rk⟩ := z
      refine ⟨⟨Hr, y_tr f6 fr⟩, r1, fun k => ?_⟩
      rw [rk k]
      by_cases ck : k = j
      · subst ck
        rw [if_neg (by omega), if_pos (by omega), q6, ← q5]
      · by_cases c2 : j + 1 ≤ k ∧ k < 157
        · rw [if_pos c2, if_pos (by omega), o6 _ _ (Or.inl (by decide))]
        · rw [if_neg c2, if_neg (by omega), o6 _ _ (Or.inr ck)]
theorem E_back {l1 : Int32} {M : gM} (H : y_HT M) (W : y_W M) : Ok (F_X12_back (some 175) l1 M) (fun r => (¬ ((0 ≤ l1.toInt ∧ l1.toInt ≤ 3) ∧ M.2.1 196 l1.toNatClampNeg ≠ 0) → r = (-1, M)) ∧ ∀ n : Nat, l1.toInt = (n : Int) → n ≤ 3 → M.2.1 196 n ≠ 0 → (r.1 = M.2.1 193 (157 * n + 4) ∧ ∀ k, r.2.2.1 185 k = if k < 157 then M.2.1 193 (157 * n + k) else M.2.1 185 k) ∧ r.2.2.1 175 21 = M.2.1 194 n ∧ r.2.2.1 175 25 = 0) := by
  delta F_X12_back F_X12_back_b0 F_X12_back_b21
  refine Ok_b (S_X12_in' (lo := 0) (hi := 3) rfl rfl) (fun v1 e1 => ?_)
  refine Ok_i (fun c => ?_) (fun c => ?_)
  · have hn : ¬ (0 ≤ l1.toInt ∧ l1.toInt ≤ 3) := e1.2.2 (by rw [c]; rfl)
    exact Ok_s ⟨fun _ => rfl, fun n h1 h2 => by omega⟩
  · have h := e1.2.1 (i_ne c)
    obtain ⟨m, hm⟩ : ∃ m : Nat, l1.toInt = (m : Int) := ⟨l1.toInt.toNat, by omega⟩
    have e2 : l1.toNatClampNeg = m := i_cl hm
    refine y_gR (w := 196) H rfl (by decide) ?_
    refine y_aI H (i := 196) (n := 4) rfl (by decide) (by omega) (by omega) (fun v3 q3 => ?_)
    refine Ok_i (fun c3 => ?_) (fun c3 => ?_)
    · refine Ok_s ⟨fun _ => rfl, fun n hl _ hne => ?_⟩
      have : n = m := by omega
      subst this
      rw [e2] at q3
      exact absurd (q3.trans c3) hne
    · have hmm : M.2.1 196 l1.toNatClampNeg ≠ 0 := by rw [q3]; exact c3
      refine y_gR (w := 194) H rfl (by decide) ?_
      refine y_aIr (lo := -1) (hi := 5) H (i := 194) (n := 4) rfl (by decide) (by omega) (by omega) rfl (fun v5 q5 e5 => ?_)
      refine y_pI (S := 1125899946688512) (lo := -1) (hi := 5) H rfl e5 (by decide) (fun M6 H6 f6 q6 o6 l6 => ?_)
      refine y_gR (w := 195) H6 rfl (by decide) ?_
      refine y_aIr (lo := 0) (hi := 2147483647) H6 (i := 195) (n := 4) rfl (by decide) (by omega) (by omega) rfl (fun v8 q8 e8 => ?_)
      refine y_pI (S := 1125899911036928) (lo := 0) (hi := 2147483647) H6 rfl e8 (by decide) (fun M9 H9 f9 q9 o9 l9 => ?_)
      refine y_pI (S := 1125899940397056) (lo := 0) (hi := 20) H9 rfl (by decide) (by decide) (fun M10 H10 f10 q10 o10 l10 => ?_)
      refine Ok_w (E_back_L50 hm (by omega) g_fuel 0 H10 rfl (by decide) (by decide)) (fun r z => ?_)
      obtain ⟨⟨H11, f11⟩, z1, z2⟩ := z
      rw [e2] at q5
      refine ⟨fun hn => absurd ⟨h, hmm⟩ hn, fun n hl _ _ => ?_⟩
      have : n = m := by omega
      subst this
      have o193 : ∀ k, M10.2.1 193 k = M.2.1 193 k := fun k => by rw [o10 193 _ (Or.inl (by decide)), o9 193 _ (Or.inl (by decide)), o6 193 _ (Or.inl (by decide))]
      have o185 : ∀ k, M10.2.1 185 k = M.2.1 185 k := fun k => by rw [o10 185 _ (Or.inl (by decide)), o9 185 _ (Or.inl (by decide)), o6 185 _ (Or.inl (by decide))]
      have zz : ∀ k, r.2.2.1 185 k = if k < 157 then M.2.1 193 (157 * n + k) else M.2.1 185 k := by
        intro k
        rw [z2 k, o193, o185]
        by_cases ck : k < 157
        · rw [if_pos ck, if_pos ⟨Nat.zero_le _, ck⟩]
        · rw [if_neg ck, if_neg (fun w => ck w.2)]
      refine ⟨⟨by rw [z1, zz 4, if_pos (by decide)], zz⟩, ?_, ?_⟩
      · rw [y_fk (i := 175) (k := 21) f11 (by decide), o10 _ _ (Or.inr (by decide)), o9 _ _ (Or.inr (by decide)), q6, ← q5]
      · rw [y_fk (i := 175) (k := 25) f11 (by decide), q10]
theorem C_force {l : Int32} {M : gM} (K : g_k M 2 = (11, 0)) : F_X11_force (some 2) l M = some (if l < -1 then (-2, M) else if l < M.2.1 2 12 then (M.2.1 2 13, mI M 2 13 l) else (-2, M)) := by
  delta F_X11_force F_X11_force_b0 F_X11_force_b13
  by_cases h : l < -1
  · rw [if_pos h, if_pos h]
  rw [if_neg h, if_neg h, t_gI K, Option.bind_some]
  by_cases c : l < M.2.1 2 12
  · rw [if_pos c, if_pos c, t_gI K, Option.bind_some, t_pI K, Option.bind_some]
  · rw [if_neg c, if_neg c]
theorem E_force {l : Int32} {M : gM} (H : y_HT M) : F_X12_force (some 175) l M = some (if l = -1 then (M.2.1 175 21, mI M 175 21 l) else if l < 0 then (-2, M) else if M.2.1 175 2 ≤ l then (-2, M) else (M.2.1 175 21, mI M 175 21 l)) := by
  delta F_X12_force F_X12_force_b0 F_X12_force_b16 F_X12_isRule F_X12_isRule_b0 F_X12_isRule_b16
  by_cases h : l = -1
  · rw [if_pos h, if_pos h, e_gI H, Option.bind_some, e_pI H, Option.bind_some]
  rw [if_neg h, if_neg h, e_gO H, Option.bind_some]
  by_cases c : l < 0
  · rw [if_pos c, if_pos c, Option.bind_some, if_pos rfl]
  rw [if_neg c, if_neg c, e_gI H, Option.bind_some]
  by_cases c2 : M.2.1 175 2 ≤ l
  · rw [if_pos c2, if_pos c2, Option.bind_some, if_pos rfl]
  · rw [if_neg c2, if_neg c2, Option.bind_some, if_neg (by decide), e_gI H, Option.bind_some, e_pI H, Option.bind_some]
