theorem S_X12_four_L3 {l1 : Int32} : ∀ (n k : Nat) {l2 : Int32} {M : gM}, y_HT M → l2.toInt = 8 * (k : Int) - 8 → k ≤ 4 → (M.2.1 175 1).toInt + k ≤ 400 → k < n → Ok (F_X12_four_L3 n (some 175) l1 l2 M) (fun M' => y_PV 2199023255554 M M' ∧ (M'.2.1 175 1).toInt = (M.2.1 175 1).toInt + k) := by
  intro n
  induction n with
  | zero =>
    intro k l2 M H h1 h2 h3 hm
    exfalso
    omega
  | succ n ih =>
    intro k l2 M H h1 h2 h3 hm
    show Ok (F_X12_four_b3 (F_X12_four_L3 n) (some 175) l1 l2 M) _
    delta F_X12_four_b3
    have zm : (-8 : Int32).toInt = -8 := rfl
    refine Ok_i (fun c => ?_) (fun c => ?_)
    · replace c := i_lt c
      rw [L2_0] at c
      exact Ok_s ⟨⟨H, y_rf0 _ _⟩, by omega⟩
    · replace c := i_nlt c
      rw [L2_0] at c
      refine y_gR (w := 176) H rfl (by decide) ?_
      refine y_gI (lo := 0) (hi := 400) H rfl (fun v2 q2 e2 => ?_)
      rw [q2] at h3 ⊢
      refine y_sB (S := 2199023255554) H (by omega) (by omega) (by decide) (fun M3 H3 f3 o3 => ?_)
      refine y_gIs H3 ((o3 175 (by decide) _).trans q2) ?_
      have a := i_addc (x := v2) (c := (1 : Int32)) L2_1 (by omega) (by omega)
      have a2 := i_addc (x := l2) (c := (-8 : Int32)) zm (by omega) (by omega)
      refine y_pI (S := 2199023255554) (lo := 0) (hi := 400) H3 rfl (by omega) (by decide) (fun M5 H5 f5 q5 o5 l5 => ?_)
      refine Ok_w (ih (k - 1) H5 (by omega) (by omega) (by rw [q5]; omega) (by omega)) (fun M' z => ⟨⟨z.1.1, y_tr (y_tr f3 f5) z.1.2⟩, ?_⟩)
      rw [z.2, q5]
      omega
theorem S_X12_four {l1 : Int32} {M : gM} (H : y_HT M) (h : (M.2.1 175 1).toInt ≤ 396) : Ok (F_X12_four (some 175) l1 M) (fun M' => y_PV 2199023255554 M M' ∧ (M'.2.1 175 1).toInt = (M.2.1 175 1).toInt + 4) := by
  delta F_X12_four F_X12_four_b0
  exact S_X12_four_L3 g_fuel 4 H (by decide) (by decide) (by show _ + (4 : Int) ≤ 400; omega) (by decide)
theorem S_X12_feed {l1 l2 l3 l4 l5 : Int32} {M : gM} (H : y_HT M) : Ok (F_X12_feed (some 175) l1 l2 l3 l4 l5 M) (y_PI 2199023255554 M (-2147483648) 2147483647) := by
  delta F_X12_feed F_X12_feed_b0
  refine y_gI (lo := 0) (hi := 400) H rfl (fun v1 q1 e1 => ?_)
  have a := i_addc (x := v1) (c := (20 : Int32)) L2_20 (by omega) (by omega)
  refine Ok_i (fun c => ?_) (fun c => ?_)
  · replace c := i_le c
    rw [L2_400] at c
    have t1 := congrArg Int32.toInt q1
    refine y_gO H ?_
    refine Ok_b (S_X12_four H (by omega)) (fun M3 z3 => ?_)
    obtain ⟨⟨H3, f3⟩, t3⟩ := z3
    refine y_gC H3 ?_
    refine Ok_b (S_X12_four H3 (by omega)) (fun M5 z5 => ?_)
    obtain ⟨⟨H5, f5⟩, t5⟩ := z5
    refine y_gC H5 ?_
    refine Ok_b (S_X12_four H5 (by omega)) (fun M7 z7 => ?_)
    obtain ⟨⟨H7, f7⟩, t7⟩ := z7
    refine y_gC H7 ?_
    refine Ok_b (S_X12_four H7 (by omega)) (fun M9 z9 => ?_)
    obtain ⟨⟨H9, f9⟩, t9⟩ := z9
    refine y_gC H9 ?_
    refine Ok_b (S_X12_four H9 (by omega)) (fun M11 z11 => ?_)
    obtain ⟨⟨H11, f11⟩, t11⟩ := z11
    refine y_gI (lo := 0) (hi := 400) H11 rfl (fun v12 q12 e12 => ?_)
    exact z_PI (i_rng _) H11 (y_tr f3 (y_tr f5 (y_tr f7 (y_tr f9 f11))))
  · exact z_PI (i_rng _) H (y_rf0 _ _)
theorem S_X12_end_b12  {M : gM} (H : y_HT M) : Ok (F_X12_end_b12 M) (y_PI 2 M (-2147483648) (2147483647)) := by
  delta F_X12_end_b12
  exact z_PI (i_rng _) H (y_rf0 _ _)
theorem S_X12_end_b0 {l1 : Int32} {M : gM} (H : y_HT M) : Ok (F_X12_end_b0 (some 175) l1 M) (y_PI 2 M (-2147483648) (2147483647)) := by
  delta F_X12_end_b0
  refine Ok_i (fun c_1 => ?_) (fun c_1 => ?_)
  · skip
    replace c_1 := i_lt c_1
    rw [L2_0] at c_1
    exact v_PI (S1 := 2) (y_rf0 _ _) (S_X12_end_b12  H) (by decide) (by decide) (by decide)
  · skip
    replace c_1 := i_nlt c_1
    rw [L2_0] at c_1
    refine y_gI (lo := 0) (hi := 400) H rfl (fun v1 q_v1 e_v1 => ?_)
    refine Ok_i (fun c_2 => ?_) (fun c_2 => ?_)
    · skip
      replace c_2 := i_le c_2
      refine y_pI (S := 2) (lo := 0) (hi := 400) H rfl (by omega) (by decide) (fun M2 HM2 fM2 q_M2 o_M2 l_M2 => ?_)
      exact z_PI (i_rng _) HM2 fM2
    · skip
      replace c_2 := i_nle c_2
      exact v_PI (S1 := 2) (y_rf0 _ _) (S_X12_end_b12  H) (by decide) (by decide) (by decide)
theorem S_X12_end {l1 : Int32} {M : gM} (H : y_HT M) : Ok (F_X12_end (some 175) l1 M) (y_PI 2 M (-2147483648) (2147483647)) := by
  delta F_X12_end
  exact v_PI (S1 := 2) (y_rf0 _ _) (S_X12_end_b0  H) (by decide) (by decide) (by decide)
theorem y_Wforce {M M' : gM} {S : Nat} {v : Int32} (W : y_W M) (f : y_Fr S M M') (hS : Nat.land S y_wb = 2 ^ 21) (q : M'.2.1 175 21 = v) (h : v.toInt < (M.2.1 175 2).toInt) : y_W M' := by
  have hb : ∀ {j : Nat}, y_wb.testBit j = true → (2 ^ 21 : Nat).testBit j = false → S.testBit j = false := by
    intro j h1 h2
    have e : (S &&& y_wb).testBit j = (2 ^ 21 : Nat).testBit j := congrArg (fun z => Nat.testBit z j) hS
    rw [Nat.testBit_and, h1, Bool.and_true, h2] at e
    exact e
  have e2 := y_fk (i := 175) (k := 2) f (hb (by decide) (by decide))
  have a177 := y_fa (i := 177) f (by decide) (hb (by decide) (by decide))
  have a179 := y_fa (i := 179) f (by decide) (hb (by decide) (by decide))
  have a180 := y_fa (i := 180) f (by decide) (hb (by decide) (by decide))
  have a194 := y_fa (i := 194) f (by decide) (hb (by decide) (by decide))
  have a196 := y_fa (i := 196) f (by decide) (hb (by decide) (by decide))
  have es : ∀ t, y_sn M' t = y_sn M t := fun t => funext (fun j => a177 _)
  refine ⟨⟨by rw [e2, q]; exact h, fun k hk hn => ?_⟩, fun t c ht hc => ?_⟩
  · rw [a196] at hn
    rw [a194, e2]
    exact W.1.2 k hk hn
  · rw [e2] at ht
    rw [a180] at hc
    have h9 := W.2 t c ht hc
    unfold y_cl at h9 ⊢
    rw [es, a179, a179, a179, a179]
    exact h9
theorem S_X12_force {l1 : Int32} {M : gM} (H : y_HT M) (W : y_W M) : Ok (F_X12_force (some 175) l1 M) (fun r => y_PI 2097152 M (-2147483648) 2147483647 r ∧ y_W r.2) := by
  delta F_X12_force F_X12_force_b0 F_X12_force_b16
  have hr := H.2.1 175 (by decide) 2
  have hr2 : 0 ≤ (M.2.1 175 2).toInt ∧ (M.2.1 175 2).toInt ≤ 6 := hr
  have go : -1 ≤ l1.toInt → l1.toInt < (M.2.1 175 2).toInt → Ok ((gI 12 M (some 175) 21).bind fun v1 => (pI 12 M (some 175) 21 l1).bind fun M2 => some (v1, M2)) (fun r => y_PI 2097152 M (-2147483648) 2147483647 r ∧ y_W r.2) := by
    intro h1 h2
    refine y_gI (lo := -1) (hi := 5) H rfl (fun v1 q1 e1 => ?_)
    refine y_pI (S := 2097152) (lo := -1) (hi := 5) H rfl (by omega) (by decide) (fun M2 H2 f2 q2 o2 l2 => ?_)
    exact Ok_s ⟨⟨i_rng _, H2, f2⟩, y_Wforce W f2 (by decide) q2 h2⟩
  refine Ok_i (fun c => ?_) (fun c => ?_)
  · subst c
    exact go (by decide) (by show (-1 : Int) < _; omega)
  · refine y_gO H ?_
    refine Ok_b (S_X12_isRule H) (fun v2 e2 => ?_)
    refine Ok_i (fun c2 => ?_) (fun c2 => ?_)
    · exact Ok_s ⟨⟨i_rng _, H, y_rf0 _ _⟩, W⟩
    · have h3 := e2.2 (i_ne c2)
      exact go (by omega) h3.2
theorem S_X12_thingOf_b0 {l1 : Int32} {l2 : Int32} {M : gM} (H : y_HT M) (h_l1 : 0 ≤ l1.toInt ∧ l1.toInt ≤ 6) (h_l2 : 0 ≤ l2.toInt ∧ l2.toInt ≤ 3) : Ok (F_X12_thingOf_b0 M (some 175) l1 l2) (q_pi (-2147483648) (2147483647)) := by
  delta F_X12_thingOf_b0
  refine y_gR (w := 185) H rfl (by decide) ?_
  have a_1 := i_mulL (c := (4 : Int32)) (x := l1) L2_4 (by omega) (by omega)
  have a_2 := i_cadd (c := (10 : Int32)) (x := ((4 : Int32) * l1)) L2_10 (by omega) (by omega)
  have a_3 := i_add (x := ((10 : Int32) + ((4 : Int32) * l1))) (y := l2) (by omega) (by omega)
  refine y_aI H (i := 185) (n := 157) rfl (by decide) (by omega) (by omega) (fun v2 q_v2 => ?_)
  exact r_pi (i_rng _)
theorem S_X12_thingOf {l1 : Int32} {l2 : Int32} {M : gM} (H : y_HT M) (h_l1 : 0 ≤ l1.toInt ∧ l1.toInt ≤ 6) (h_l2 : 0 ≤ l2.toInt ∧ l2.toInt ≤ 3) : Ok (F_X12_thingOf (some 175) l1 l2 M) (q_pi (-2147483648) (2147483647)) := by
  delta F_X12_thingOf
  exact w_pi (S_X12_thingOf_b0  H h_l1 h_l2) (by decide) (by decide)
theorem S_X12_valueOf_b0 {l1 : Int32} {l2 : Int32} {M : gM} (H : y_HT M) (h_l1 : 0 ≤ l1.toInt ∧ l1.toInt ≤ 6) (h_l2 : 0 ≤ l2.toInt ∧ l2.toInt ≤ 6) : Ok (F_X12_valueOf_b0 M (some 175) l1 l2) (q_pi (-2147483648) (2147483647)) := by
  delta F_X12_valueOf_b0
  refine y_gR (w := 185) H rfl (by decide) ?_
  have a_1 := i_mulL (c := (14 : Int32)) (x := l1) L2_14 (by omega) (by omega)
  have a_2 := i_cadd (c := (59 : Int32)) (x := ((14 : Int32) * l1)) L2_59 (by omega) (by omega)
  have a_3 := i_mulL (c := (2 : Int32)) (x := l2) L2_2 (by omega) (by omega)
  have a_4 := i_add (x := ((59 : Int32) + ((14 : Int32) * l1))) (y := ((2 : Int32) * l2)) (by omega) (by omega)
  refine y_aI H (i := 185) (n := 157) rfl (by decide) (by omega) (by omega) (fun v2 q_v2 => ?_)
  exact r_pi (i_rng _)
theorem S_X12_valueOf {l1 : Int32} {l2 : Int32} {M : gM} (H : y_HT M) (h_l1 : 0 ≤ l1.toInt ∧ l1.toInt ≤ 6) (h_l2 : 0 ≤ l2.toInt ∧ l2.toInt ≤ 6) : Ok (F_X12_valueOf (some 175) l1 l2 M) (q_pi (-2147483648) (2147483647)) := by
  delta F_X12_valueOf
  exact w_pi (S_X12_valueOf_b0  H h_l1 h_l2) (by decide) (by decide)
theorem S_X12_knowsOf_b0 {l1 : Int32} {l2 : Int32} {M : gM} (H : y_HT M) (h_l1 : 0 ≤ l1.toInt ∧ l1.toInt ≤ 6) (h_l2 : 0 ≤ l2.toInt ∧ l2.toInt ≤ 6) : Ok (F_X12_knowsOf_b0 M (some 175) l1 l2) (q_pi (0) (1)) := by
  delta F_X12_knowsOf_b0
  refine y_gO H ?_
  refine Ok_b (S_X12_valueOf H h_l1 h_l2) (fun v2 e_v2 => ?_)
  clear e_v2
  refine Ok_i (fun c_1 => ?_) (fun c_1 => ?_)
  · skip
    replace c_1 := i_lt c_1
    rw [L2_0] at c_1
    exact r_pi (by decide)
  · skip
    replace c_1 := i_nlt c_1
    rw [L2_0] at c_1
    exact r_pi (by decide)
theorem S_X12_knowsOf {l1 : Int32} {l2 : Int32} {M : gM} (H : y_HT M) (h_l1 : 0 ≤ l1.toInt ∧ l1.toInt ≤ 6) (h_l2 : 0 ≤ l2.toInt ∧ l2.toInt ≤ 6) : Ok (F_X12_knowsOf (some 175) l1 l2 M) (q_pi (0) (1)) := by
  delta F_X12_knowsOf
  exact w_pi (S_X12_knowsOf_b0  H h_l1 h_l2) (by decide) (by decide)
theorem S_X12_sameAs_b44 {k5 : Option Nat → Int32 → Int32 → Int32 → Int32 → Option Int32} {m5 : Int} {l1 : Int32} {l2 : Int32} {l4 : Int32} {s0 : Int32} {s1 : Int32} {M : gM} (hk5 : ∀ {l1 : Int32} {l2 : Int32} {l3 : Int32} {l4 : Int32}, y_HT M → (0 ≤ l1.toInt ∧ l1.toInt ≤ 6) → (0 ≤ l2.toInt ∧ l2.toInt ≤ 6) → (0 ≤ l4.toInt ∧ l4.toInt ≤ 7) → 7 - l4.toInt < m5 → Ok (k5 (some 175) l1 l2 l3 l4) (q_pi (-2147483648) (2147483647))) (H : y_HT M) (h_l1 : 0 ≤ l1.toInt ∧ l1.toInt ≤ 6) (h_l2 : 0 ≤ l2.toInt ∧ l2.toInt ≤ 6) (h_l4 : 0 ≤ l4.toInt ∧ l4.toInt ≤ 6) (h_s1 : 0 ≤ s1.toInt ∧ s1.toInt ≤ 1) (hm5 : 7 - l4.toInt ≤ m5) : Ok (F_X12_sameAs_b44 k5 M (some 175) l1 l2 l4 s0 s1) (q_pi (-2147483648) (2147483647)) := by
  delta F_X12_sameAs_b44
  have a_1 := i_addc (x := l4) (c := 1) L2_1 (by omega) (by omega)
  exact w_pi (hk5 H h_l1 h_l2 (by omega) (by omega)) (by decide) (by decide)
theorem S_X12_sameAs_b43 {k5 : Option Nat → Int32 → Int32 → Int32 → Int32 → Option Int32} {m5 : Int} {l1 : Int32} {l2 : Int32} {l4 : Int32} {s0 : Int32} {M : gM} (hk5 : ∀ {l1 : Int32} {l2 : Int32} {l3 : Int32} {l4 : Int32}, y_HT M → (0 ≤ l1.toInt ∧ l1.toInt ≤ 6) → (0 ≤ l2.toInt ∧ l2.toInt ≤ 6) → (0 ≤ l4.toInt ∧ l4.toInt ≤ 7) → 7 - l4.toInt < m5 → Ok (k5 (some 175) l1 l2 l3 l4) (q_pi (-2147483648) (2147483647))) (H : y_HT M) (h_l1 : 0 ≤ l1.toInt ∧ l1.toInt ≤ 6) (h_l2 : 0 ≤ l2.toInt ∧ l2.toInt ≤ 6) (h_l4 : 0 ≤ l4.toInt ∧ l4.toInt ≤ 6) (hm5 : 7 - l4.toInt ≤ m5) : Ok (F_X12_sameAs_b43 k5 M (some 175) l1 l2 l4 s0) (q_pi (-2147483648) (2147483647)) := by
  delta F_X12_sameAs_b43
  exact w_pi (S_X12_sameAs_b44 hk5 H h_l1 h_l2 h_l4 (by decide) (by omega)) (by decide) (by decide)
set_option maxHeartbeats 1000000 in
theorem S_X12_sameAs_b5 {k5 : Option Nat → Int32 → Int32 → Int32 → Int32 → Option Int32} {m5 : Int} {l1 : Int32} {l2 : Int32} {l3 : Int32} {l4 : Int32} {M : gM} (hk5 : ∀ {l1 : Int32} {l2 : Int32} {l3 : Int32} {l4 : Int32}, y_HT M → (0 ≤ l1.toInt ∧ l1.toInt ≤ 6) → (0 ≤ l2.toInt ∧ l2.toInt ≤ 6) → (0 ≤ l4.toInt ∧ l4.toInt ≤ 7) → 7 - l4.toInt < m5 → Ok (k5 (some 175) l1 l2 l3 l4) (q_pi (-2147483648) (2147483647))) (H : y_HT M) (h_l1 : 0 ≤ l1.toInt ∧ l1.toInt ≤ 6) (h_l2 : 0 ≤ l2.toInt ∧ l2.toInt ≤ 6) (h_l4 : 0 ≤ l4.toInt ∧ l4.toInt ≤ 7) (hm5 : 7 - l4.toInt ≤ m5) : Ok (F_X12_sameAs_b5 k5 M (some 175) l1 l2 l3 l4) (q_pi (-2147483648) (2147483647)) := by
  delta F_X12_sameAs_b5
  refine y_gR (w := 185) H rfl (by decide) ?_
  refine y_aIr (lo := 0) (hi := 7) H (i := 185) (n := 157) rfl (by decide) (by decide) (by decide) rfl (fun v2 q_v2 e_v2 => ?_)
  refine Ok_i (fun c_1 => ?_) (fun c_1 => ?_)
  · skip
    replace c_1 := i_le c_1
    exact r_pi (i_rng _)
  · skip
    replace c_1 := i_nle c_1
    refine Ok_i (fun c_2 => ?_) (fun c_2 => ?_)
    · skip
      replace c_2 := i_eq c_2
      exact w_pi (S_X12_sameAs_b43 hk5 H h_l1 h_l2 (by omega) (by omega)) (by decide) (by decide)
    · skip
      replace c_2 := i_ne c_2
      refine y_gO H ?_
      refine Ok_b (S_X12_valueOf H (by omega) h_l2) (fun v4 e_v4 => ?_)
      clear e_v4
      refine Ok_b (S_X12_valueOf H h_l1 h_l2) (fun v5 e_v5 => ?_)
      clear e_v5
      refine Ok_i (fun c_3 => ?_) (fun c_3 => ?_)
      · skip
        replace c_3 := i_eq c_3
        exact w_pi (S_X12_sameAs_b44 hk5 H h_l1 h_l2 (by omega) (by decide) (by omega)) (by decide) (by decide)
      · skip
        replace c_3 := i_ne c_3
        exact w_pi (S_X12_sameAs_b43 hk5 H h_l1 h_l2 (by omega) (by omega)) (by decide) (by decide)
theorem S_X12_sameAs_L5 {M : gM} : ∀ (n : Nat) {l1 : Int32} {l2 : Int32} {l3 : Int32} {l4 : Int32}, y_HT M → (0 ≤ l1.toInt ∧ l1.toInt ≤ 6) → (0 ≤ l2.toInt ∧ l2.toInt ≤ 6) → (0 ≤ l4.toInt ∧ l4.toInt ≤ 7) → 7 - l4.toInt < (n : Int) → Ok (F_X12_sameAs_L5 M n (some 175) l1 l2 l3 l4) (q_pi (-2147483648) (2147483647)) := by
  intro n
  induction n with
  | zero =>
    intro l1 l2 l3 l4 H h_l1 h_l2 h_l4  hm
    exfalso
    omega
  | succ n ih =>
    intro l1 l2 l3 l4 H h_l1 h_l2 h_l4  hm
    exact S_X12_sameAs_b5 (m5 := 7 - l4.toInt) (fun H h_l1 h_l2 h_l4  hmz => ih H h_l1 h_l2 h_l4  (by omega)) H h_l1 h_l2 h_l4  (Int.le_refl _)
theorem S_X12_sameAs_b0 {l1 : Int32} {l2 : Int32} {M : gM} (H : y_HT M) (h_l1 : 0 ≤ l1.toInt ∧ l1.toInt ≤ 6) (h_l2 : 0 ≤ l2.toInt ∧ l2.toInt ≤ 6) : Ok (F_X12_sameAs_b0 M (some 175) l1 l2) (q_pi (-2147483648) (2147483647)) := by
  delta F_X12_sameAs_b0
  exact w_pi (S_X12_sameAs_L5  g_fuel H h_l1 h_l2 (by decide) (q_fu (by rw [L2_0]; omega))) (by decide) (by decide)
theorem S_X12_sameAs {l1 : Int32} {l2 : Int32} {M : gM} (H : y_HT M) (h_l1 : 0 ≤ l1.toInt ∧ l1.toInt ≤ 6) (h_l2 : 0 ≤ l2.toInt ∧ l2.toInt ≤ 6) : Ok (F_X12_sameAs (some 175) l1 l2 M) (q_pi (-2147483648) (2147483647)) := by
  delta F_X12_sameAs
  exact w_pi (S_X12_sameAs_b0  H h_l1 h_l2) (by decide) (by decide)
theorem S_X12_holds_b18  {M : gM} (H : y_HT M) : Ok (F_X12_holds_b18 M) (q_pi (0) (1)) := by
  delta F_X12_holds_b18
  exact r_pi (by decide)
theorem S_X12_holds_b44  {M : gM} (H : y_HT M) : Ok (F_X12_holds_b44 M) (q_pi (0) (1)) := by
  delta F_X12_holds_b44
  exact r_pi (by decide)
set_option maxHeartbeats 1000000 in
theorem S_X12_holds_b0 {l1 : Int32} {l2 : Int32} {M : gM} (H : y_HT M) (h_l1 : 0 ≤ l1.toInt ∧ l1.toInt ≤ 6) (h_l2 : 0 ≤ l2.toInt ∧ l2.toInt ≤ 6) : Ok (F_X12_holds_b0 M (some 175) l1 l2) (q_pi (0) (1)) := by
  delta F_X12_holds_b0
  refine y_gO H ?_
  refine Ok_b (S_X12_thingOf H h_l2 (by decide)) (fun v2 e_v2 => ?_)
  clear e_v2
  refine Ok_i (fun c_1 => ?_) (fun c_1 => ?_)
  · skip
    replace c_1 := i_le c_1
    rw [L2_0] at c_1
    exact w_pi (S_X12_holds_b18  H) (by decide) (by decide)
  · skip
    replace c_1 := i_nle c_1
    rw [L2_0] at c_1
    refine Ok_b (S_X12_knowsOf H h_l1 h_l2) (fun v3 e_v3 => ?_)
    replace e_v3 := q_un e_v3
    refine Ok_i (fun c_2 => ?_) (fun c_2 => ?_)
    · skip
      replace c_2 := i_eq c_2
      rw [L2_0] at c_2
      exact w_pi (S_X12_holds_b18  H) (by decide) (by decide)
    · skip
      replace c_2 := i_ne c_2
      rw [L2_0] at c_2
      refine Ok_b (S_X12_valueOf H h_l1 h_l2) (fun v4 e_v4 => ?_)
      clear e_v4
      refine Ok_b (S_X12_thingOf H h_l2 (by decide)) (fun v5 e_v5 => ?_)
      clear e_v5
      refine Ok_i (fun c_3 => ?_) (fun c_3 => ?_)
      · skip
        replace c_3 := i_eq c_3
        exact w_pi (S_X12_holds_b44  H) (by decide) (by decide)
      · skip
        replace c_3 := i_ne c_3
        refine Ok_b (S_X12_sameAs H h_l1 h_l2) (fun v6 e_v6 => ?_)
        clear e_v6
        refine Ok_i (fun c_4 => ?_) (fun c_4 => ?_)
        · skip
          replace c_4 := i_le c_4
          rw [L2_0] at c_4
          exact r_pi (by decide)
        · skip
          replace c_4 := i_nle c_4
          rw [L2_0] at c_4
          exact w_pi (S_X12_holds_b44  H) (by decide) (by decide)
theorem S_X12_holds {l1 : Int32} {l2 : Int32} {M : gM} (H : y_HT M) (h_l1 : 0 ≤ l1.toInt ∧ l1.toInt ≤ 6) (h_l2 : 0 ≤ l2.toInt ∧ l2.toInt ≤ 6) : Ok (F_X12_holds (some 175) l1 l2 M) (q_pi (0) (1)) := by
  delta F_X12_holds
  exact w_pi (S_X12_holds_b0  H h_l1 h_l2) (by decide) (by decide)
theorem S_X12_holdsOf_b31 {k4 : Option Nat → Int32 → Int32 → Int32 → Option Int32} {m4 : Int} {l1 : Int32} {l3 : Int32} {s0 : Int32} {s1 : Int32} {M : gM} (hk4 : ∀ {l1 : Int32} {l2 : Int32} {l3 : Int32}, y_HT M → (0 ≤ l1.toInt ∧ l1.toInt ≤ 6) → (0 ≤ l3.toInt ∧ l3.toInt ≤ 7) → 7 - l3.toInt < m4 → Ok (k4 (some 175) l1 l2 l3) (q_pi (-2147483648) (2147483647))) (H : y_HT M) (h_l1 : 0 ≤ l1.toInt ∧ l1.toInt ≤ 6) (h_l3 : 0 ≤ l3.toInt ∧ l3.toInt ≤ 6) (h_s1 : 0 ≤ s1.toInt ∧ s1.toInt ≤ 128) (hm4 : 7 - l3.toInt ≤ m4) : Ok (F_X12_holdsOf_b31 k4 M (some 175) l1 l3 s0 s1) (q_pi (-2147483648) (2147483647)) := by
  delta F_X12_holdsOf_b31
  have a_1 := i_addc (x := l3) (c := 1) L2_1 (by omega) (by omega)
  exact w_pi (hk4 H h_l1 (by omega) (by omega)) (by decide) (by decide)
set_option maxHeartbeats 1000000 in
theorem S_X12_holdsOf_b4 {k4 : Option Nat → Int32 → Int32 → Int32 → Option Int32} {m4 : Int} {l1 : Int32} {l2 : Int32} {l3 : Int32} {M : gM} (hk4 : ∀ {l1 : Int32} {l2 : Int32} {l3 : Int32}, y_HT M → (0 ≤ l1.toInt ∧ l1.toInt ≤ 6) → (0 ≤ l3.toInt ∧ l3.toInt ≤ 7) → 7 - l3.toInt < m4 → Ok (k4 (some 175) l1 l2 l3) (q_pi (-2147483648) (2147483647))) (H : y_HT M) (h_l1 : 0 ≤ l1.toInt ∧ l1.toInt ≤ 6) (h_l3 : 0 ≤ l3.toInt ∧ l3.toInt ≤ 7) (hm4 : 7 - l3.toInt ≤ m4) : Ok (F_X12_holdsOf_b4 k4 M (some 175) l1 l2 l3) (q_pi (-2147483648) (2147483647)) := by
  delta F_X12_holdsOf_b4
  refine y_gR (w := 185) H rfl (by decide) ?_
  refine y_aIr (lo := 0) (hi := 7) H (i := 185) (n := 157) rfl (by decide) (by decide) (by decide) rfl (fun v2 q_v2 e_v2 => ?_)
  refine Ok_i (fun c_1 => ?_) (fun c_1 => ?_)
  · skip
    replace c_1 := i_le c_1
    exact r_pi (i_rng _)
  · skip
    replace c_1 := i_nle c_1
    refine y_gO H ?_
    refine Ok_b (S_X12_holds H h_l1 (by omega)) (fun v4 e_v4 => ?_)
    replace e_v4 := q_un e_v4
    refine Ok_i (fun c_2 => ?_) (fun c_2 => ?_)
    · skip
      replace c_2 := i_eq c_2
      rw [L2_0] at c_2
      exact w_pi (S_X12_holdsOf_b31 hk4 H h_l1 (by omega) (by decide) (by omega)) (by decide) (by decide)
    · skip
      replace c_2 := i_ne c_2
      rw [L2_0] at c_2
      have a_3 := i_shl1 (v := l3) (by omega)
      exact w_pi (S_X12_holdsOf_b31 hk4 H h_l1 (by omega) (by omega) (by omega)) (by decide) (by decide)
theorem S_X12_holdsOf_L4 {M : gM} : ∀ (n : Nat) {l1 : Int32} {l2 : Int32} {l3 : Int32}, y_HT M → (0 ≤ l1.toInt ∧ l1.toInt ≤ 6) → (0 ≤ l3.toInt ∧ l3.toInt ≤ 7) → 7 - l3.toInt < (n : Int) → Ok (F_X12_holdsOf_L4 M n (some 175) l1 l2 l3) (q_pi (-2147483648) (2147483647)) := by
  intro n
  induction n with
  | zero =>
    intro l1 l2 l3 H h_l1 h_l3  hm
    exfalso
    omega
  | succ n ih =>
    intro l1 l2 l3 H h_l1 h_l3  hm
    exact S_X12_holdsOf_b4 (m4 := 7 - l3.toInt) (fun H h_l1 h_l3  hmz => ih H h_l1 h_l3  (by omega)) H h_l1 h_l3  (Int.le_refl _)
theorem S_X12_holdsOf_b0 {l1 : Int32} {M : gM} (H : y_HT M) (h_l1 : 0 ≤ l1.toInt ∧ l1.toInt ≤ 6) : Ok (F_X12_holdsOf_b0 M (some 175) l1) (q_pi (-2147483648) (2147483647)) := by
  delta F_X12_holdsOf_b0
  exact w_pi (S_X12_holdsOf_L4  g_fuel H h_l1 (by decide) (q_fu (by rw [L2_0]; omega))) (by decide) (by decide)
theorem S_X12_holdsOf {l1 : Int32} {M : gM} (H : y_HT M) (h_l1 : 0 ≤ l1.toInt ∧ l1.toInt ≤ 6) : Ok (F_X12_holdsOf (some 175) l1 M) (q_pi (-2147483648) (2147483647)) := by
  delta F_X12_holdsOf
  exact w_pi (S_X12_holdsOf_b0  H h_l1) (by decide) (by decide)
theorem S_X12_heir_b20  {M : gM} (H : y_HT M) : Ok (F_X12_heir_b20 M) (q_pi (-2147483648) (2147483647)) := by
  delta F_X12_heir_b20
  exact r_pi (i_rng _)
theorem S_X12_heir_b119 {k89 : Option Nat → Int32 → Int32 → Int32 → Option Int32} {m89 : Int} {l1 : Int32} {l4 : Int32} {s0 : Int32} {s1 : Int32} {M : gM} (hk89 : ∀ {l1 : Int32} {l3 : Int32} {l4 : Int32}, y_HT M → (0 ≤ l1.toInt ∧ l1.toInt ≤ 6) → (0 ≤ l4.toInt ∧ l4.toInt ≤ 7) → 7 - l4.toInt < m89 → Ok (k89 (some 175) l1 l3 l4) (q_pi (-2147483648) (2147483647))) (H : y_HT M) (h_l1 : 0 ≤ l1.toInt ∧ l1.toInt ≤ 6) (h_l4 : 0 ≤ l4.toInt ∧ l4.toInt ≤ 6) (h_s1 : 0 ≤ s1.toInt ∧ s1.toInt ≤ 128) (hm89 : 7 - l4.toInt ≤ m89) : Ok (F_X12_heir_b119 k89 M (some 175) l1 l4 s0 s1) (q_pi (-2147483648) (2147483647)) := by
  delta F_X12_heir_b119
  have a_1 := i_addc (x := l4) (c := 1) L2_1 (by omega) (by omega)
  exact w_pi (hk89 H h_l1 (by omega) (by omega)) (by decide) (by decide)
set_option maxHeartbeats 1000000 in
theorem S_X12_heir_b89 {k89 : Option Nat → Int32 → Int32 → Int32 → Option Int32} {m89 : Int} {l1 : Int32} {l3 : Int32} {l4 : Int32} {M : gM} (hk89 : ∀ {l1 : Int32} {l3 : Int32} {l4 : Int32}, y_HT M → (0 ≤ l1.toInt ∧ l1.toInt ≤ 6) → (0 ≤ l4.toInt ∧ l4.toInt ≤ 7) → 7 - l4.toInt < m89 → Ok (k89 (some 175) l1 l3 l4) (q_pi (-2147483648) (2147483647))) (H : y_HT M) (h_l1 : 0 ≤ l1.toInt ∧ l1.toInt ≤ 6) (h_l4 : 0 ≤ l4.toInt ∧ l4.toInt ≤ 7) (hm89 : 7 - l4.toInt ≤ m89) : Ok (F_X12_heir_b89 k89 M (some 175) l1 l3 l4) (q_pi (-2147483648) (2147483647)) := by
  delta F_X12_heir_b89
  refine y_gR (w := 185) H rfl (by decide) ?_
  refine y_aIr (lo := 0) (hi := 7) H (i := 185) (n := 157) rfl (by decide) (by decide) (by decide) rfl (fun v2 q_v2 e_v2 => ?_)
  refine Ok_i (fun c_1 => ?_) (fun c_1 => ?_)
  · skip
    replace c_1 := i_le c_1
    exact r_pi (i_rng _)
  · skip
    replace c_1 := i_nle c_1
    refine y_gO H ?_
    refine Ok_b (S_X12_knowsOf H h_l1 (by omega)) (fun v4 e_v4 => ?_)
    replace e_v4 := q_un e_v4
    refine Ok_i (fun c_2 => ?_) (fun c_2 => ?_)
    · skip
      replace c_2 := i_eq c_2
      rw [L2_0] at c_2
      exact w_pi (S_X12_heir_b119 hk89 H h_l1 (by omega) (by decide) (by omega)) (by decide) (by decide)
    · skip
      replace c_2 := i_ne c_2
      rw [L2_0] at c_2
      have a_3 := i_shl1 (v := l4) (by omega)
      exact w_pi (S_X12_heir_b119 hk89 H h_l1 (by omega) (by omega) (by omega)) (by decide) (by decide)
theorem S_X12_heir_L89 {M : gM} : ∀ (n : Nat) {l1 : Int32} {l3 : Int32} {l4 : Int32}, y_HT M → (0 ≤ l1.toInt ∧ l1.toInt ≤ 6) → (0 ≤ l4.toInt ∧ l4.toInt ≤ 7) → 7 - l4.toInt < (n : Int) → Ok (F_X12_heir_L89 M n (some 175) l1 l3 l4) (q_pi (-2147483648) (2147483647)) := by
  intro n
  induction n with
  | zero =>
    intro l1 l3 l4 H h_l1 h_l4  hm
    exfalso
    omega
  | succ n ih =>
    intro l1 l3 l4 H h_l1 h_l4  hm
    exact S_X12_heir_b89 (m89 := 7 - l4.toInt) (fun H h_l1 h_l4  hmz => ih H h_l1 h_l4  (by omega)) H h_l1 h_l4  (Int.le_refl _)
set_option maxHeartbeats 1000000 in
theorem S_X12_heir_b0 {l1 : Int32} {l2 : Int32} {M : gM} (H : y_HT M) : Ok (F_X12_heir_b0 M (some 175) l1 l2) (q_pi (-2147483648) (2147483647)) := by
  delta F_X12_heir_b0
  refine y_gO H ?_
  refine Ok_b (S_X12_isHeir H) (fun v2 e_v2 => ?_)
  obtain ⟨e_v2, w_v2⟩ := e_v2
  refine Ok_i (fun c_1 => ?_) (fun c_1 => ?_)
  · skip
    replace c_1 := i_eq c_1
    rw [L2_0] at c_1
    exact w_pi (S_X12_heir_b20  H) (by decide) (by decide)
  · skip
    replace c_1 := i_ne c_1
    rw [L2_0] at c_1
    have x_v2 := w_v2 (by omega)
    refine Ok_b (S_X12_in (lo := 0) (hi := 5) rfl rfl) (fun v3 e_v3 => ?_)
    obtain ⟨e_v3, w_v3⟩ := e_v3
    refine Ok_i (fun c_2 => ?_) (fun c_2 => ?_)
    · skip
      replace c_2 := i_eq c_2
      rw [L2_0] at c_2
      exact w_pi (S_X12_heir_b20  H) (by decide) (by decide)
    · skip
      replace c_2 := i_ne c_2
      rw [L2_0] at c_2
      have x_v3 := w_v3 (by omega)
      refine Ok_i (fun c_3 => ?_) (fun c_3 => ?_)
      · skip
        replace c_3 := i_le c_3
        rw [L2_2] at c_3
        refine Ok_i (fun c_4 => ?_) (fun c_4 => ?_)
        · skip
          replace c_4 := i_eq c_4
          rw [L2_2] at c_4
          refine y_gR (w := 185) H rfl (by decide) ?_
          refine y_aI H (i := 185) (n := 157) rfl (by decide) (by decide) (by decide) (fun v8 q_v8 => ?_)
          have a_5 := i_andc (a := (v8 >>> (l1 &&& 31))) (m := (1 : Int32)) (n := 1) rfl (by decide)
          exact r_pi (i_rng _)
        · skip
          replace c_4 := i_ne c_4
          rw [L2_2] at c_4
          refine Ok_i (fun c_6 => ?_) (fun c_6 => ?_)
          · skip
            replace c_6 := i_eq c_6
            rw [L2_3] at c_6
            refine y_gR (w := 185) H rfl (by decide) ?_
            have a_7 := i_cadd (c := (52 : Int32)) (x := l1) L2_52 (by omega) (by omega)
            refine y_aI H (i := 185) (n := 157) rfl (by decide) (by omega) (by omega) (fun v6 q_v6 => ?_)
            exact r_pi (i_rng _)
          · skip
            replace c_6 := i_ne c_6
            rw [L2_3] at c_6
            refine Ok_i (fun c_8 => ?_) (fun c_8 => ?_)
            · skip
              replace c_8 := i_eq c_8
              rw [L2_5] at c_8
              refine Ok_b (S_X12_holdsOf H (by omega)) (fun v4 e_v4 => ?_)
              clear e_v4
              exact r_pi (i_rng _)
            · skip
              replace c_8 := i_ne c_8
              rw [L2_5] at c_8
              exact w_pi (S_X12_heir_L89  g_fuel H (by omega) (by decide) (q_fu (by rw [L2_0]; omega))) (by decide) (by decide)
      · skip
        replace c_3 := i_nle c_3
        rw [L2_2] at c_3
        refine y_gR (w := 185) H rfl (by decide) ?_
        have a_9 := i_mulL (c := (2 : Int32)) (x := l1) L2_2 (by omega) (by omega)
        have a_10 := i_cadd (c := (38 : Int32)) (x := ((2 : Int32) * l1)) L2_38 (by omega) (by omega)
        have a_11 := i_add (x := ((38 : Int32) + ((2 : Int32) * l1))) (y := l2) (by omega) (by omega)
        refine y_aI H (i := 185) (n := 157) rfl (by decide) (by omega) (by omega) (fun v10 q_v10 => ?_)
        exact r_pi (i_rng _)
theorem S_X12_heir {l1 : Int32} {l2 : Int32} {M : gM} (H : y_HT M) : Ok (F_X12_heir (some 175) l1 l2 M) (q_pi (-2147483648) (2147483647)) := by
  delta F_X12_heir
  exact w_pi (S_X12_heir_b0  H) (by decide) (by decide)
theorem S_X12_holdersOf_b31 {k4 : Option Nat → Int32 → Int32 → Int32 → Option Int32} {m4 : Int} {l1 : Int32} {l3 : Int32} {s0 : Int32} {s1 : Int32} {M : gM} (hk4 : ∀ {l1 : Int32} {l2 : Int32} {l3 : Int32}, y_HT M → (0 ≤ l1.toInt ∧ l1.toInt ≤ 6) → (0 ≤ l3.toInt ∧ l3.toInt ≤ 7) → 7 - l3.toInt < m4 → Ok (k4 (some 175) l1 l2 l3) (q_pi (-2147483648) (2147483647))) (H : y_HT M) (h_l1 : 0 ≤ l1.toInt ∧ l1.toInt ≤ 6) (h_l3 : 0 ≤ l3.toInt ∧ l3.toInt ≤ 6) (h_s1 : 0 ≤ s1.toInt ∧ s1.toInt ≤ 128) (hm4 : 7 - l3.toInt ≤ m4) : Ok (F_X12_holdersOf_b31 k4 M (some 175) l1 l3 s0 s1) (q_pi (-2147483648) (2147483647)) := by
  delta F_X12_holdersOf_b31
  have a_1 := i_addc (x := l3) (c := 1) L2_1 (by omega) (by omega)
  exact w_pi (hk4 H h_l1 (by omega) (by omega)) (by decide) (by decide)
set_option maxHeartbeats 1000000 in
theorem S_X12_holdersOf_b4 {k4 : Option Nat → Int32 → Int32 → Int32 → Option Int32} {m4 : Int} {l1 : Int32} {l2 : Int32} {l3 : Int32} {M : gM} (hk4 : ∀ {l1 : Int32} {l2 : Int32} {l3 : Int32}, y_HT M → (0 ≤ l1.toInt ∧ l1.toInt ≤ 6) → (0 ≤ l3.toInt ∧ l3.toInt ≤ 7) → 7 - l3.toInt < m4 → Ok (k4 (some 175) l1 l2 l3) (q_pi (-2147483648) (2147483647))) (H : y_HT M) (h_l1 : 0 ≤ l1.toInt ∧ l1.toInt ≤ 6) (h_l3 : 0 ≤ l3.toInt ∧ l3.toInt ≤ 7) (hm4 : 7 - l3.toInt ≤ m4) : Ok (F_X12_holdersOf_b4 k4 M (some 175) l1 l2 l3) (q_pi (-2147483648) (2147483647)) := by
  delta F_X12_holdersOf_b4
  refine y_gR (w := 185) H rfl (by decide) ?_
  refine y_aIr (lo := 0) (hi := 7) H (i := 185) (n := 157) rfl (by decide) (by decide) (by decide) rfl (fun v2 q_v2 e_v2 => ?_)
  refine Ok_i (fun c_1 => ?_) (fun c_1 => ?_)
  · skip
    replace c_1 := i_le c_1
    exact r_pi (i_rng _)
  · skip
    replace c_1 := i_nle c_1
    refine y_gO H ?_
    refine Ok_b (S_X12_holds H (by omega) h_l1) (fun v4 e_v4 => ?_)
    replace e_v4 := q_un e_v4
    refine Ok_i (fun c_2 => ?_) (fun c_2 => ?_)
    · skip
      replace c_2 := i_eq c_2
      rw [L2_0] at c_2
      exact w_pi (S_X12_holdersOf_b31 hk4 H h_l1 (by omega) (by decide) (by omega)) (by decide) (by decide)
    · skip
      replace c_2 := i_ne c_2
      rw [L2_0] at c_2
      have a_3 := i_shl1 (v := l3) (by omega)
      exact w_pi (S_X12_holdersOf_b31 hk4 H h_l1 (by omega) (by omega) (by omega)) (by decide) (by decide)
theorem S_X12_holdersOf_L4 {M : gM} : ∀ (n : Nat) {l1 : Int32} {l2 : Int32} {l3 : Int32}, y_HT M → (0 ≤ l1.toInt ∧ l1.toInt ≤ 6) → (0 ≤ l3.toInt ∧ l3.toInt ≤ 7) → 7 - l3.toInt < (n : Int) → Ok (F_X12_holdersOf_L4 M n (some 175) l1 l2 l3) (q_pi (-2147483648) (2147483647)) := by
  intro n
  induction n with
  | zero =>
    intro l1 l2 l3 H h_l1 h_l3  hm
    exfalso
    omega
  | succ n ih =>
    intro l1 l2 l3 H h_l1 h_l3  hm
    exact S_X12_holdersOf_b4 (m4 := 7 - l3.toInt) (fun H h_l1 h_l3  hmz => ih H h_l1 h_l3  (by omega)) H h_l1 h_l3  (Int.le_refl _)
theorem S_X12_holdersOf_b0 {l1 : Int32} {M : gM} (H : y_HT M) (h_l1 : 0 ≤ l1.toInt ∧ l1.toInt ≤ 6) : Ok (F_X12_holdersOf_b0 M (some 175) l1) (q_pi (-2147483648) (2147483647)) := by
  delta F_X12_holdersOf_b0
  exact w_pi (S_X12_holdersOf_L4  g_fuel H h_l1 (by decide) (q_fu (by rw [L2_0]; omega))) (by decide) (by decide)
theorem S_X12_holdersOf {l1 : Int32} {M : gM} (H : y_HT M) (h_l1 : 0 ≤ l1.toInt ∧ l1.toInt ≤ 6) : Ok (F_X12_holdersOf (some 175) l1 M) (q_pi (-2147483648) (2147483647)) := by
  delta F_X12_holdersOf
  exact w_pi (S_X12_holdersOf_b0  H h_l1) (by decide) (by decide)
theorem S_X12_thing_b20  {M : gM} (H : y_HT M) : Ok (F_X12_thing_b20 M) (q_pi (-2147483648) (2147483647)) := by
  delta F_X12_thing_b20
  exact r_pi (i_rng _)
set_option maxHeartbeats 1000000 in
theorem S_X12_thing_b0 {l1 : Int32} {l2 : Int32} {M : gM} (H : y_HT M) : Ok (F_X12_thing_b0 M (some 175) l1 l2) (q_pi (-2147483648) (2147483647)) := by
  delta F_X12_thing_b0
  refine y_gO H ?_
  refine Ok_b (S_X12_isThing H) (fun v2 e_v2 => ?_)
  obtain ⟨e_v2, w_v2⟩ := e_v2
  refine Ok_i (fun c_1 => ?_) (fun c_1 => ?_)
  · skip
    replace c_1 := i_eq c_1
    rw [L2_0] at c_1
    exact w_pi (S_X12_thing_b20  H) (by decide) (by decide)
  · skip
    replace c_1 := i_ne c_1
    rw [L2_0] at c_1
    have x_v2 := w_v2 (by omega)
    refine Ok_b (S_X12_in (lo := 0) (hi := 6) rfl rfl) (fun v3 e_v3 => ?_)
    obtain ⟨e_v3, w_v3⟩ := e_v3
    refine Ok_i (fun c_2 => ?_) (fun c_2 => ?_)
    · skip
      replace c_2 := i_eq c_2
      rw [L2_0] at c_2
      exact w_pi (S_X12_thing_b20  H) (by decide) (by decide)
    · skip
      replace c_2 := i_ne c_2
      rw [L2_0] at c_2
      have x_v3 := w_v3 (by omega)
      refine Ok_i (fun c_3 => ?_) (fun c_3 => ?_)
      · skip
        replace c_3 := i_le c_3
        rw [L2_3] at c_3
        refine Ok_i (fun c_4 => ?_) (fun c_4 => ?_)
        · skip
          replace c_4 := i_eq c_4
          rw [L2_3] at c_4
          refine y_gR (w := 185) H rfl (by decide) ?_
          refine y_aI H (i := 185) (n := 157) rfl (by decide) (by decide) (by decide) (fun v9 q_v9 => ?_)
          have a_5 := i_andc (a := (v9 >>> (l1 &&& 31))) (m := (1 : Int32)) (n := 1) rfl (by decide)
          exact r_pi (i_rng _)
        · skip
          replace c_4 := i_ne c_4
          rw [L2_3] at c_4
          refine Ok_i (fun c_6 => ?_) (fun c_6 => ?_)
          · skip
            replace c_6 := i_eq c_6
            rw [L2_4] at c_6
            refine y_gR (w := 185) H rfl (by decide) ?_
            refine y_aI H (i := 185) (n := 157) rfl (by decide) (by decide) (by decide) (fun v7 q_v7 => ?_)
            have a_7 := i_andc (a := (v7 >>> (l1 &&& 31))) (m := (1 : Int32)) (n := 1) rfl (by decide)
            exact r_pi (i_rng _)
          · skip
            replace c_6 := i_ne c_6
            rw [L2_4] at c_6
            refine Ok_i (fun c_8 => ?_) (fun c_8 => ?_)
            · skip
              replace c_8 := i_eq c_8
              rw [L2_5] at c_8
              refine Ok_b (S_X12_thingOf H (by omega) (by decide)) (fun v5 e_v5 => ?_)
              clear e_v5
              exact r_pi (i_rng _)
            · skip
              replace c_8 := i_ne c_8
              rw [L2_5] at c_8
              refine Ok_b (S_X12_holdersOf H (by omega)) (fun v4 e_v4 => ?_)
              clear e_v4
              exact r_pi (i_rng _)
      · skip
        replace c_3 := i_nle c_3
        rw [L2_3] at c_3
        refine Ok_b (S_X12_thingOf H (by omega) (by omega)) (fun v10 e_v10 => ?_)
        clear e_v10
        exact r_pi (i_rng _)
theorem S_X12_thing {l1 : Int32} {l2 : Int32} {M : gM} (H : y_HT M) : Ok (F_X12_thing (some 175) l1 l2 M) (q_pi (-2147483648) (2147483647)) := by
  delta F_X12_thing
  exact w_pi (S_X12_thing_b0  H) (by decide) (by decide)
theorem S_X12_knows_b47  {M : gM} (H : y_HT M) : Ok (F_X12_knows_b47 M) (q_pi (-2147483648) (2147483647)) := by
  delta F_X12_knows_b47
  exact r_pi (i_rng _)
set_option maxHeartbeats 1000000 in
theorem S_X12_knows_b0 {l1 : Int32} {l2 : Int32} {l3 : Int32} {M : gM} (H : y_HT M) : Ok (F_X12_knows_b0 M (some 175) l1 l2 l3) (q_pi (-2147483648) (2147483647)) := by
  delta F_X12_knows_b0
  refine y_gO H ?_
  refine Ok_b (S_X12_isHeir H) (fun v2 e_v2 => ?_)
  obtain ⟨e_v2, w_v2⟩ := e_v2
  refine Ok_i (fun c_1 => ?_) (fun c_1 => ?_)
  · skip
    replace c_1 := i_eq c_1
    rw [L2_0] at c_1
    exact w_pi (S_X12_knows_b47  H) (by decide) (by decide)
  · skip
    replace c_1 := i_ne c_1
    rw [L2_0] at c_1
    have x_v2 := w_v2 (by omega)
    refine Ok_b (S_X12_isThing H) (fun v3 e_v3 => ?_)
    obtain ⟨e_v3, w_v3⟩ := e_v3
    refine Ok_i (fun c_2 => ?_) (fun c_2 => ?_)
    · skip
      replace c_2 := i_eq c_2
      rw [L2_0] at c_2
      exact w_pi (S_X12_knows_b47  H) (by decide) (by decide)
    · skip
      replace c_2 := i_ne c_2
      rw [L2_0] at c_2
      have x_v3 := w_v3 (by omega)
      refine Ok_b (S_X12_in (lo := 0) (hi := 1) rfl rfl) (fun v4 e_v4 => ?_)
      obtain ⟨e_v4, w_v4⟩ := e_v4
      refine Ok_i (fun c_3 => ?_) (fun c_3 => ?_)
      · skip
        replace c_3 := i_eq c_3
        rw [L2_0] at c_3
        exact w_pi (S_X12_knows_b47  H) (by decide) (by decide)
      · skip
        replace c_3 := i_ne c_3
        rw [L2_0] at c_3
        have x_v4 := w_v4 (by omega)
        refine y_gR (w := 185) H rfl (by decide) ?_
        have a_4 := i_mulL (c := (14 : Int32)) (x := l1) L2_14 (by omega) (by omega)
        have a_5 := i_cadd (c := (59 : Int32)) (x := ((14 : Int32) * l1)) L2_59 (by omega) (by omega)
        have a_6 := i_mulL (c := (2 : Int32)) (x := l2) L2_2 (by omega) (by omega)
        have a_7 := i_add (x := ((59 : Int32) + ((14 : Int32) * l1))) (y := ((2 : Int32) * l2)) (by omega) (by omega)
        have a_8 := i_add (x := (((59 : Int32) + ((14 : Int32) * l1)) + ((2 : Int32) * l2))) (y := l3) (by omega) (by omega)
        refine y_aI H (i := 185) (n := 157) rfl (by decide) (by omega) (by omega) (fun v6 q_v6 => ?_)
        exact r_pi (i_rng _)
theorem S_X12_knows {l1 : Int32} {l2 : Int32} {l3 : Int32} {M : gM} (H : y_HT M) : Ok (F_X12_knows (some 175) l1 l2 l3 M) (q_pi (-2147483648) (2147483647)) := by
  delta F_X12_knows
  exact w_pi (S_X12_knows_b0  H) (by decide) (by decide)
theorem S_X12_isHouse_b0  {M : gM} (H : y_HT M) : Ok (F_X12_isHouse_b0 M (some 175)) (q_pi (0) (1)) := by
  delta F_X12_isHouse_b0
  refine y_gR (w := 185) H rfl (by decide) ?_
  refine y_aI H (i := 185) (n := 157) rfl (by decide) (by decide) (by decide) (fun v2 q_v2 => ?_)
  refine Ok_i (fun c_1 => ?_) (fun c_1 => ?_)
  · skip
    replace c_1 := i_le c_1
    rw [L2_0] at c_1
    exact r_pi (by decide)
  · skip
    replace c_1 := i_nle c_1
    rw [L2_0] at c_1
    exact r_pi (by decide)
theorem S_X12_isHouse  {M : gM} (H : y_HT M) : Ok (F_X12_isHouse (some 175) M) (q_pi (0) (1)) := by
  delta F_X12_isHouse
  exact w_pi (S_X12_isHouse_b0  H) (by decide) (by decide)
theorem y_md {j l : Int32} {u : Int} (hu : 0 ≤ u) (hl : 0 ≤ l.toInt ∧ l.toInt < 157) (e : j.toInt = 157 * u + l.toInt) : y_tS (j.toNatClampNeg % 157) = y_tS l.toNatClampNeg := by
  have e1 := i_clamp (x := j) (by omega)
  have e2 := i_clamp (x := l) hl.1
  have e3 : j.toNatClampNeg % 157 = l.toNatClampNeg := by omega
  rw [e3]
theorem S_X12_keepsAct_L54 : ∀ (n : Nat) {l1 : Int32} {M : gM}, y_HT M → (M.2.1 175 25).toInt ≤ 19 → (0 ≤ l1.toInt ∧ l1.toInt ≤ 157) → 157 - l1.toInt < (n : Int) → Ok (F_X12_keepsAct_L54 n (some 175) l1 M) (y_PV 4503599660924928 M) := by
  intro n
  induction n with
  | zero =>
    intro l1 M H hu h hm
    exfalso
    omega
  | succ n ih =>
    intro l1 M H hu h hm
    show Ok (F_X12_keepsAct_b54 (F_X12_keepsAct_L54 n) (some 175) l1 M) _
    delta F_X12_keepsAct_b54
    refine Ok_i (fun c => ?_) (fun c => ?_)
    · refine y_gI (lo := 0) (hi := 20) H rfl (fun v1 q1 e1 => ?_)
      rw [q1] at hu
      have a := i_addc (x := v1) (c := (1 : Int32)) L2_1 (by omega) (by omega)
      refine y_pI (S := 4503599660924928) (lo := 0) (hi := 20) H rfl (by omega) (by decide) (fun M2 H2 f2 q2 o2 l2 => ?_)
      exact z_PV H2 f2
    · replace c := i_nle c
      rw [L2_157] at c
      have a := i_addc (x := l1) (c := (1 : Int32)) L2_1 (by omega) (by omega)
      refine y_gR (w := 187) H rfl (by decide) ?_
      refine y_gI (lo := 0) (hi := 20) H rfl (fun v4 q4 e4 => ?_)
      have hu4 := hu
      rw [q4] at hu4
      have a1 := i_mulL (c := (157 : Int32)) (x := v4) (n := 157) rfl (by omega) (by omega)
      have a2 := i_add (x := (157 : Int32) * v4) (y := l1) (by omega) (by omega)
      refine y_gR (w := 185) H rfl (by decide) ?_
      refine y_aI H (i := 185) (n := 157) rfl (by decide) (by omega) (by omega) (fun v6 q6 => ?_)
      refine y_sI (S := 4503599660924928) H (i := 187) (n := 3140) rfl (by omega) (by omega) (y_mv H (by decide) q6 (y_md (u := v4.toInt) (by omega) (by omega) (by omega))) (by decide) (fun M4 H4 f4 q4 o4 l4 => ?_)
      exact v_PV (S1 := 4503599660924928) f4 (ih H4 (by rw [o4 _ _ (Or.inl (by decide))]; exact hu) (by omega) (by omega)) (by decide)
theorem S_X12_keepsAct_L13 : ∀ (n : Nat) {l1 : Int32} {M : gM}, y_HT M → (M.2.1 175 25).toInt = 20 → (157 ≤ l1.toInt ∧ l1.toInt ≤ 3140) → 3140 - l1.toInt < (n : Int) → Ok (F_X12_keepsAct_L13 n (some 175) l1 M) (y_PV 4503599660924928 M) := by
  intro n
  induction n with
  | zero =>
    intro l1 M H hu h hm
    exfalso
    omega
  | succ n ih =>
    intro l1 M H hu h hm
    show Ok (F_X12_keepsAct_b13 (F_X12_keepsAct_L13 n) (some 175) l1 M) _
    delta F_X12_keepsAct_b13 F_X12_keepsAct_b52
    refine Ok_i (fun c => ?_) (fun c => ?_)
    · refine y_gI (lo := 0) (hi := 20) H rfl (fun v1 q1 e1 => ?_)
      rw [q1] at hu
      have a := i_subc (x := v1) (c := (1 : Int32)) L2_1 (by omega) (by omega)
      refine y_pI (S := 4503599660924928) (lo := 0) (hi := 20) H rfl (by omega) (by decide) (fun M2 H2 f2 q2 o2 l2 => ?_)
      exact v_PV (S1 := 4503599660924928) f2 (S_X12_keepsAct_L54 g_fuel H2 (by rw [q2]; omega) (by decide) (by decide)) (by decide)
    · replace c := i_nle c
      rw [L2_3140] at c
      have a := i_addc (x := l1) (c := (1 : Int32)) L2_1 (by omega) (by omega)
      have a1 := i_subc (x := l1) (c := (157 : Int32)) L2_157 (by omega) (by omega)
      refine y_gR (w := 187) H rfl (by decide) ?_
      refine y_gR (w := 187) H rfl (by decide) ?_
      refine y_aI H (i := 187) (n := 3140) rfl (by decide) (by omega) (by omega) (fun v6 q6 => ?_)
      have e1 := i_clamp (x := l1) (by omega)
      have e2 := i_clamp (x := l1 - (157 : Int32)) (by omega)
      have e3 : (l1 - (157 : Int32)).toNatClampNeg % 157 = l1.toNatClampNeg % 157 := by omega
      refine y_sI (S := 4503599660924928) H (i := 187) (n := 3140) rfl (by omega) (by omega) (y_mv H (by decide) q6 (congrArg y_tS e3)) (by decide) (fun M4 H4 f4 q4 o4 l4 => ?_)
      exact v_PV (S1 := 4503599660924928) f4 (ih H4 (by rw [o4 _ _ (Or.inl (by decide))]; exact hu) (by omega) (by omega)) (by decide)
theorem S_X12_keepsAct {M : gM} (H : y_HT M) : Ok (F_X12_keepsAct (some 175) M) (y_PV 4503599660924928 M) := by
  delta F_X12_keepsAct F_X12_keepsAct_b0 F_X12_keepsAct_b52
  refine y_gI (lo := 0) (hi := 20) H rfl (fun v1 q1 e1 => ?_)
  refine Ok_i (fun c => ?_) (fun c => ?_)
  · exact S_X12_keepsAct_L13 g_fuel H (by rw [q1, c]; rfl) (by decide) (by decide)
  · replace c := i_ne c
    rw [L2_20] at c
    exact S_X12_keepsAct_L54 g_fuel H (by rw [q1]; omega) (by decide) (by decide)
theorem S_X12_fades_b71 {l1 : Int32} {s0 : Int32} {M : gM} (H : y_HT M) (h_l1 : 0 ≤ l1.toInt ∧ l1.toInt ≤ 6) (h_s0 : 0 ≤ s0.toInt ∧ s0.toInt ≤ 44) : Ok (F_X12_fades_b71 M (some 175) l1 s0) (q_pi (0) (44)) := by
  delta F_X12_fades_b71
  refine y_gR (w := 185) H rfl (by decide) ?_
  refine y_aI H (i := 185) (n := 157) rfl (by decide) (by decide) (by decide) (fun v2 q_v2 => ?_)
  refine Ok_b (S_X12_isOf H) (fun v3 e_v3 => ?_)
  replace e_v3 := q_un e_v3
  refine Ok_i (fun c_1 => ?_) (fun c_1 => ?_)
  · skip
    replace c_1 := i_eq c_1
    rw [L2_0] at c_1
    exact r_pi (by omega)
  · skip
    replace c_1 := i_ne c_1
    rw [L2_0] at c_1
    have a_2 := i_div (x := s0) (c := (2 : Int32)) (n := 2) L2_2 (by decide) (by omega)
    exact r_pi (by omega)
theorem S_X12_fades_b48 {l1 : Int32} {l3 : Int32} {l4 : Int32} {M : gM} (H : y_HT M) (h_l1 : 0 ≤ l1.toInt ∧ l1.toInt ≤ 6) (h_l3 : 0 ≤ l3.toInt ∧ l3.toInt ≤ 99) (h_l4 : 0 ≤ l4.toInt ∧ l4.toInt ≤ 40) : Ok (F_X12_fades_b48 M (some 175) l1 l3 l4) (q_pi (0) (44)) := by
  delta F_X12_fades_b48
  have a_1 := i_div (x := l3) (c := (20 : Int32)) (n := 20) L2_20 (by decide) (by omega)
  have a_2 := i_add (x := l4) (y := (l3 / (20 : Int32))) (by omega) (by omega)
  refine Ok_i (fun c_3 => ?_) (fun c_3 => ?_)
  · skip
    replace c_3 := i_le c_3
    rw [L2_99] at c_3
    exact w_pi (S_X12_fades_b71  H h_l1 (by omega)) (by decide) (by decide)
  · skip
    replace c_3 := i_nle c_3
    rw [L2_99] at c_3
    exfalso
    omega
theorem S_X12_fades_b28 {l1 : Int32} {l2 : Int32} {l3 : Int32} {l4 : Int32} {M : gM} (H : y_HT M) (h_l1 : 0 ≤ l1.toInt ∧ l1.toInt ≤ 6) (h_l2 : 0 ≤ l2.toInt ∧ l2.toInt ≤ 6) (h_l3 : 0 ≤ l3.toInt ∧ l3.toInt ≤ 99) (h_l4 : 0 ≤ l4.toInt ∧ l4.toInt ≤ 40) : Ok (F_X12_fades_b28 M (some 175) l1 l2 l3 l4) (q_pi (0) (44)) := by
  delta F_X12_fades_b28
  refine y_gR (w := 185) H rfl (by decide) ?_
  refine y_aI H (i := 185) (n := 157) rfl (by decide) (by decide) (by decide) (fun v2 q_v2 => ?_)
  refine Ok_b (S_X12_isOf H) (fun v3 e_v3 => ?_)
  replace e_v3 := q_un e_v3
  refine Ok_i (fun c_1 => ?_) (fun c_1 => ?_)
  · skip
    replace c_1 := i_eq c_1
    rw [L2_0] at c_1
    exact w_pi (S_X12_fades_b48  H h_l1 h_l3 h_l4) (by decide) (by decide)
  · skip
    replace c_1 := i_ne c_1
    rw [L2_0] at c_1
    have a_2 := i_div (x := l4) (c := (2 : Int32)) (n := 2) L2_2 (by decide) (by omega)
    exact w_pi (S_X12_fades_b48  H h_l1 h_l3 (by omega)) (by decide) (by decide)
theorem S_X12_fades_b0 {l1 : Int32} {l2 : Int32} {l3 : Int32} {M : gM} (H : y_HT M) (h_l1 : 0 ≤ l1.toInt ∧ l1.toInt ≤ 6) (h_l2 : 0 ≤ l2.toInt ∧ l2.toInt ≤ 6) (h_l3 : 0 ≤ l3.toInt ∧ l3.toInt ≤ 99) : Ok (F_X12_fades_b0 M (some 175) l1 l2 l3) (q_pi (0) (44)) := by
  delta F_X12_fades_b0
  refine y_gO H ?_
  refine Ok_b (S_X12_thingOf1 H (by omega)) (fun v2 e_v2 => ?_)
  replace e_v2 := q_un e_v2
  refine y_gR (w := 185) H rfl (by decide) ?_
  refine y_aI H (i := 185) (n := 157) rfl (by decide) (by decide) (by decide) (fun v4 q_v4 => ?_)
  refine Ok_b (S_X12_isOf H) (fun v5 e_v5 => ?_)
  replace e_v5 := q_un e_v5
  refine Ok_i (fun c_1 => ?_) (fun c_1 => ?_)
  · skip
    replace c_1 := i_eq c_1
    rw [L2_0] at c_1
    exact w_pi (S_X12_fades_b28  H h_l1 h_l2 h_l3 (by omega)) (by decide) (by decide)
  · skip
    replace c_1 := i_ne c_1
    rw [L2_0] at c_1
    have a_2 := i_mulL (c := (2 : Int32)) (x := v2) L2_2 (by omega) (by omega)
    exact w_pi (S_X12_fades_b28  H h_l1 h_l2 h_l3 (by omega)) (by decide) (by decide)
theorem S_X12_fades {l1 : Int32} {l2 : Int32} {l3 : Int32} {M : gM} (H : y_HT M) (h_l1 : 0 ≤ l1.toInt ∧ l1.toInt ≤ 6) (h_l2 : 0 ≤ l2.toInt ∧ l2.toInt ≤ 6) (h_l3 : 0 ≤ l3.toInt ∧ l3.toInt ≤ 99) : Ok (F_X12_fades (some 175) l1 l2 l3 M) (q_pi (0) (44)) := by
  delta F_X12_fades
  exact w_pi (S_X12_fades_b0  H h_l1 h_l2 h_l3) (by decide) (by decide)
theorem S_X12_strengthOf_b0 {l1 : Int32} {l2 : Int32} {M : gM} (H : y_HT M) (h_l1 : 0 ≤ l1.toInt ∧ l1.toInt ≤ 6) (h_l2 : 0 ≤ l2.toInt ∧ l2.toInt ≤ 6) : Ok (F_X12_strengthOf_b0 M (some 175) l1 l2) (q_pi (-2147483648) (2147483647)) := by
  delta F_X12_strengthOf_b0
  refine y_gR (w := 185) H rfl (by decide) ?_
  have a_1 := i_mulL (c := (14 : Int32)) (x := l1) L2_14 (by omega) (by omega)
  have a_2 := i_cadd (c := (59 : Int32)) (x := ((14 : Int32) * l1)) L2_59 (by omega) (by omega)
  have a_3 := i_mulL (c := (2 : Int32)) (x := l2) L2_2 (by omega) (by omega)
  have a_4 := i_add (x := ((59 : Int32) + ((14 : Int32) * l1))) (y := ((2 : Int32) * l2)) (by omega) (by omega)
  have a_5 := i_addc (x := (((59 : Int32) + ((14 : Int32) * l1)) + ((2 : Int32) * l2))) (c := (1 : Int32)) L2_1 (by omega) (by omega)
  refine y_aI H (i := 185) (n := 157) rfl (by decide) (by omega) (by omega) (fun v2 q_v2 => ?_)
  exact r_pi (i_rng _)
theorem S_X12_strengthOf {l1 : Int32} {l2 : Int32} {M : gM} (H : y_HT M) (h_l1 : 0 ≤ l1.toInt ∧ l1.toInt ≤ 6) (h_l2 : 0 ≤ l2.toInt ∧ l2.toInt ≤ 6) : Ok (F_X12_strengthOf (some 175) l1 l2 M) (q_pi (-2147483648) (2147483647)) := by
  delta F_X12_strengthOf
  exact w_pi (S_X12_strengthOf_b0  H h_l1 h_l2) (by decide) (by decide)
set_option maxHeartbeats 1000000 in
theorem S_X12_words_b94 {l1 : Int32} {l2 : Int32} {l3 : Int32} {s1 : Int32} {s2 : Int64} {M : gM} (H : y_HT M) (h_l1 : 0 ≤ l1.toInt ∧ l1.toInt ≤ 6) (h_l2 : 0 ≤ l2.toInt ∧ l2.toInt ≤ 6) (h_s1 : 3 ≤ s1.toInt ∧ s1.toInt ≤ 3) : Ok (F_X12_words_b94 (some 175) l1 l2 l3 (some 184) s1 s2 M) (y_PV 0 M) := by
  delta F_X12_words_b94
  refine y_sL (S := 0) H (i := 184) (n := 14) rfl (by omega) (by omega) (fun M1 HM1 fM1 o_M1 => ?_)
  refine y_gR (w := 184) HM1 rfl (by decide) ?_
  refine y_gO HM1 ?_
  refine Ok_b (S_X12_strengthOf HM1 h_l1 h_l2) (fun v4 e_v4 => ?_)
  clear e_v4
  refine y_sL (S := 0) HM1 (i := 184) (n := 14) rfl (by decide) (by decide) (fun M5 HM5 fM5 o_M5 => ?_)
  have g_1 := y_tr fM1 fM5
  refine y_gR (w := 184) HM5 rfl (by decide) ?_
  refine y_gR (w := 185) HM5 rfl (by decide) ?_
  have a_2 := i_mulL (c := (2 : Int32)) (x := l1) L2_2 (by omega) (by omega)
  have a_3 := i_cadd (c := (38 : Int32)) (x := ((2 : Int32) * l1)) L2_38 (by omega) (by omega)
  refine y_aIr (lo := 0) (hi := 99) HM5 (i := 185) (n := 157) rfl (by decide) (by omega) (by omega) (y_dj38 (p := 185) (l := l1.toInt) rfl (by omega) (by omega)) (fun v8 q_v8 e_v8 => ?_)
  refine y_sL (S := 0) HM5 (i := 184) (n := 14) rfl (by decide) (by decide) (fun M9 HM9 fM9 o_M9 => ?_)
  have g_4 := y_tr g_1 fM9
  refine y_gR (w := 184) HM9 rfl (by decide) ?_
  refine y_gR (w := 185) HM9 rfl (by decide) ?_
  refine y_aI HM9 (i := 185) (n := 157) rfl (by decide) (by decide) (by decide) (fun v12 q_v12 => ?_)
  refine y_sL (S := 0) HM9 (i := 184) (n := 14) rfl (by decide) (by decide) (fun M13 HM13 fM13 o_M13 => ?_)
  have g_5 := y_tr g_4 fM13
  refine y_gR (w := 184) HM13 rfl (by decide) ?_
  refine y_gR (w := 185) HM13 rfl (by decide) ?_
  refine y_aI HM13 (i := 185) (n := 157) rfl (by decide) (by decide) (by decide) (fun v16 q_v16 => ?_)
  refine y_sL (S := 0) HM13 (i := 184) (n := 14) rfl (by decide) (by decide) (fun M17 HM17 fM17 o_M17 => ?_)
  have g_6 := y_tr g_5 fM17
  refine y_gR (w := 184) HM17 rfl (by decide) ?_
  refine y_gR (w := 185) HM17 rfl (by decide) ?_
  refine y_aI HM17 (i := 185) (n := 157) rfl (by decide) (by decide) (by decide) (fun v20 q_v20 => ?_)
  refine y_sL (S := 0) HM17 (i := 184) (n := 14) rfl (by decide) (by decide) (fun M21 HM21 fM21 o_M21 => ?_)
  have g_7 := y_tr g_6 fM21
  refine y_gR (w := 184) HM21 rfl (by decide) ?_
  refine y_gC HM21 ?_
  refine Ok_b (S_X12_thingOf1 HM21 (by omega)) (fun v24 e_v24 => ?_)
  replace e_v24 := q_un e_v24
  refine y_sL (S := 0) HM21 (i := 184) (n := 14) rfl (by decide) (by decide) (fun M25 HM25 fM25 o_M25 => ?_)
  have g_8 := y_tr g_7 fM25
  refine y_gR (w := 184) HM25 rfl (by decide) ?_
  refine y_gC HM25 ?_
  refine Ok_b (S_X12_thingOf HM25 h_l2 (by decide)) (fun v28 e_v28 => ?_)
  clear e_v28
  refine y_sL (S := 0) HM25 (i := 184) (n := 14) rfl (by decide) (by decide) (fun M29 HM29 fM29 o_M29 => ?_)
  have g_9 := y_tr g_8 fM29
  refine y_gR (w := 184) HM29 rfl (by decide) ?_
  refine y_gR (w := 185) HM29 rfl (by decide) ?_
  refine y_aI HM29 (i := 185) (n := 157) rfl (by decide) (by decide) (by decide) (fun v32 q_v32 => ?_)
  refine y_sL (S := 0) HM29 (i := 184) (n := 14) rfl (by decide) (by decide) (fun M33 HM33 fM33 o_M33 => ?_)
  have g_10 := y_tr g_9 fM33
  refine y_gR (w := 184) HM33 rfl (by decide) ?_
  refine y_gC HM33 ?_
  refine Ok_b (S_X12_sameAs HM33 h_l1 h_l2) (fun v36 e_v36 => ?_)
  clear e_v36
  refine y_sL (S := 0) HM33 (i := 184) (n := 14) rfl (by decide) (by decide) (fun M37 HM37 fM37 o_M37 => ?_)
  have g_11 := y_tr g_10 fM37
  refine y_gR (w := 184) HM37 rfl (by decide) ?_
  refine y_sL (S := 0) HM37 (i := 184) (n := 14) rfl (by decide) (by decide) (fun M39 HM39 fM39 o_M39 => ?_)
  have g_12 := y_tr g_11 fM39
  exact z_PV HM39 g_12
theorem S_X12_words_b32 {k5 : Option Nat → Int32 → Int32 → Int32 → Int32 → gM → Option gM} {m5 : Int} {l1 : Int32} {l2 : Int32} {l4 : Int32} {s0 : Int32} {s1 : Int32} {M : gM} (hk5 : ∀ {l1 : Int32} {l2 : Int32} {l3 : Int32} {l4 : Int32} {M : gM}, y_HT M → (0 ≤ l1.toInt ∧ l1.toInt ≤ 6) → (0 ≤ l2.toInt ∧ l2.toInt ≤ 6) → (0 ≤ l4.toInt ∧ l4.toInt ≤ 7) → 7 - l4.toInt < m5 → Ok (k5 (some 175) l1 l2 l3 l4 M) (y_PV 0 M)) (H : y_HT M) (h_l1 : 0 ≤ l1.toInt ∧ l1.toInt ≤ 6) (h_l2 : 0 ≤ l2.toInt ∧ l2.toInt ≤ 6) (h_l4 : 0 ≤ l4.toInt ∧ l4.toInt ≤ 6) (h_s1 : 0 ≤ s1.toInt ∧ s1.toInt ≤ 1) (hm5 : 7 - l4.toInt ≤ m5) : Ok (F_X12_words_b32 k5 (some 175) l1 l2 l4 s0 s1 M) (y_PV 0 M) := by
  delta F_X12_words_b32
  have a_1 := i_addc (x := l4) (c := 1) L2_1 (by omega) (by omega)
  exact v_PV (S1 := 0) (y_rf0 _ _) (hk5 H h_l1 h_l2 (by omega) (by omega)) (by decide)
set_option maxHeartbeats 1000000 in
theorem S_X12_words_b5 {k5 : Option Nat → Int32 → Int32 → Int32 → Int32 → gM → Option gM} {m5 : Int} {l1 : Int32} {l2 : Int32} {l3 : Int32} {l4 : Int32} {M : gM} (hk5 : ∀ {l1 : Int32} {l2 : Int32} {l3 : Int32} {l4 : Int32} {M : gM}, y_HT M → (0 ≤ l1.toInt ∧ l1.toInt ≤ 6) → (0 ≤ l2.toInt ∧ l2.toInt ≤ 6) → (0 ≤ l4.toInt ∧ l4.toInt ≤ 7) → 7 - l4.toInt < m5 → Ok (k5 (some 175) l1 l2 l3 l4 M) (y_PV 0 M)) (H : y_HT M) (h_l1 : 0 ≤ l1.toInt ∧ l1.toInt ≤ 6) (h_l2 : 0 ≤ l2.toInt ∧ l2.toInt ≤ 6) (h_l4 : 0 ≤ l4.toInt ∧ l4.toInt ≤ 7) (hm5 : 7 - l4.toInt ≤ m5) : Ok (F_X12_words_b5 k5 (some 175) l1 l2 l3 l4 M) (y_PV 0 M) := by
  delta F_X12_words_b5
  refine y_gR (w := 185) H rfl (by decide) ?_
  refine y_aIr (lo := 0) (hi := 7) H (i := 185) (n := 157) rfl (by decide) (by decide) (by decide) rfl (fun v2 q_v2 e_v2 => ?_)
  refine Ok_i (fun c_1 => ?_) (fun c_1 => ?_)
  · skip
    replace c_1 := i_le c_1
    refine y_gR (w := 184) H rfl (by decide) ?_
    refine y_sL (S := 0) H (i := 184) (n := 14) rfl (by decide) (by decide) (fun M4 HM4 fM4 o_M4 => ?_)
    refine y_gR (w := 184) HM4 rfl (by decide) ?_
    refine y_sL (S := 0) HM4 (i := 184) (n := 14) rfl (by decide) (by decide) (fun M6 HM6 fM6 o_M6 => ?_)
    have g_2 := y_tr fM4 fM6
    refine y_gR (w := 184) HM6 rfl (by decide) ?_
    refine y_gO HM6 ?_
    refine Ok_b (S_X12_valueOf HM6 h_l1 h_l2) (fun v9 e_v9 => ?_)
    clear e_v9
    refine y_sL (S := 0) HM6 (i := 184) (n := 14) rfl (by decide) (by decide) (fun M10 HM10 fM10 o_M10 => ?_)
    have g_3 := y_tr g_2 fM10
    refine y_gR (w := 184) HM10 rfl (by decide) ?_
    refine y_gC HM10 ?_
    refine Ok_b (S_X12_valueOf HM10 h_l1 h_l2) (fun v13 e_v13 => ?_)
    clear e_v13
    refine Ok_b (S_X12_thingOf HM10 h_l2 (by decide)) (fun v14 e_v14 => ?_)
    clear e_v14
    refine Ok_i (fun c_4 => ?_) (fun c_4 => ?_)
    · skip
      replace c_4 := i_eq c_4
      exact v_PV (S1 := 0) g_3 (S_X12_words_b94  HM10 h_l1 h_l2 (by decide)) (by decide)
    · skip
      replace c_4 := i_ne c_4
      exact v_PV (S1 := 0) g_3 (S_X12_words_b94  HM10 h_l1 h_l2 (by decide)) (by decide)
  · skip
    replace c_1 := i_nle c_1
    refine y_gO H ?_
    refine Ok_b (S_X12_knowsOf H h_l1 (by omega)) (fun v16 e_v16 => ?_)
    replace e_v16 := q_un e_v16
    refine Ok_i (fun c_5 => ?_) (fun c_5 => ?_)
    · skip
      replace c_5 := i_eq c_5
      rw [L2_0] at c_5
      exact v_PV (S1 := 0) (y_rf0 _ _) (S_X12_words_b32 hk5 H h_l1 h_l2 (by omega) (by decide) (by omega)) (by decide)
    · skip
      replace c_5 := i_ne c_5
      rw [L2_0] at c_5
      exact v_PV (S1 := 0) (y_rf0 _ _) (S_X12_words_b32 hk5 H h_l1 h_l2 (by omega) (by decide) (by omega)) (by decide)
theorem S_X12_words_L5 : ∀ (n : Nat) {l1 : Int32} {l2 : Int32} {l3 : Int32} {l4 : Int32} {M : gM}, y_HT M → (0 ≤ l1.toInt ∧ l1.toInt ≤ 6) → (0 ≤ l2.toInt ∧ l2.toInt ≤ 6) → (0 ≤ l4.toInt ∧ l4.toInt ≤ 7) → 7 - l4.toInt < (n : Int) → Ok (F_X12_words_L5 n (some 175) l1 l2 l3 l4 M) (y_PV 0 M) := by
  intro n
  induction n with
  | zero =>
    intro l1 l2 l3 l4 M H h_l1 h_l2 h_l4  hm
    exfalso
    omega
  | succ n ih =>
    intro l1 l2 l3 l4 M H h_l1 h_l2 h_l4  hm
    exact S_X12_words_b5 (m5 := 7 - l4.toInt) (fun H h_l1 h_l2 h_l4  hmz => ih H h_l1 h_l2 h_l4  (by omega)) H h_l1 h_l2 h_l4  (Int.le_refl _)
theorem S_X12_words_b0 {l1 : Int32} {l2 : Int32} {M : gM} (H : y_HT M) (h_l1 : 0 ≤ l1.toInt ∧ l1.toInt ≤ 6) (h_l2 : 0 ≤ l2.toInt ∧ l2.toInt ≤ 6) : Ok (F_X12_words_b0 (some 175) l1 l2 M) (y_PV 0 M) := by
  delta F_X12_words_b0
  exact v_PV (S1 := 0) (y_rf0 _ _) (S_X12_words_L5  g_fuel H h_l1 h_l2 (by decide) (q_fu (by rw [L2_0]; omega))) (by decide)
theorem S_X12_words {l1 : Int32} {l2 : Int32} {M : gM} (H : y_HT M) (h_l1 : 0 ≤ l1.toInt ∧ l1.toInt ≤ 6) (h_l2 : 0 ≤ l2.toInt ∧ l2.toInt ≤ 6) : Ok (F_X12_words (some 175) l1 l2 M) (y_PV 0 M) := by
  delta F_X12_words
  exact v_PV (S1 := 0) (y_rf0 _ _) (S_X12_words_b0  H h_l1 h_l2) (by decide)
theorem S_X12_summedBy_b58 {t q : Nat} {l1 l3 : Int32} {M : gM} (H : y_HT M) (ht : l1.toInt = (t : Int)) (ht5 : t ≤ 5) (hq : l3.toInt = (q : Int)) (hq2 : q + 3 < 288) (c : y_cl M t q) : Ok (F_X12_summedBy_b58 (some 175) l1 l3 M) (y_PJ 262144 M) := by
  delta F_X12_summedBy_b58
  have z1 : (1 : Int32).toInt = 1 := rfl
  have a1 := i_addc (x := l3) (c := (1 : Int32)) z1 (by omega) (by omega)
  refine y_gR (w := 179) H rfl (by decide) ?_
  refine y_aI H (i := 179) (n := 288) rfl (by decide) (by omega) (by omega) (fun v2 q2 => ?_)
  refine y_gR (w := 179) H rfl (by decide) ?_
  refine y_aI H (i := 179) (n := 288) rfl (by decide) (by omega) (by omega) (fun v4 q4 => ?_)
  refine y_gO H ?_
  have e1 := i_clamp (x := l3) (by omega)
  have e2 := i_clamp (x := l3 + (1 : Int32)) (by omega)
  have f1 : l3.toNatClampNeg = q := by omega
  have f2 : (l3 + (1 : Int32)).toNatClampNeg = q + 1 := by omega
  rw [f1] at q2
  rw [f2] at q4
  have g := c.1
  rw [q2, q4] at g
  refine Ok_b (S_X12_reckons H ht ht5 g) (fun y z => ?_)
  obtain ⟨v6, M7⟩ := y
  exact Ok_s z
theorem S_X12_summedBy_L2 : ∀ (n : Nat) {l1 l2 : Int32} {M : gM}, y_HT M → y_W M → (0 ≤ l1.toInt ∧ l1.toInt < (M.2.1 175 2).toInt) → (0 ≤ l2.toInt ∧ l2.toInt ≤ 12) → 12 - l2.toInt < (n : Int) → Ok (F_X12_summedBy_L2 n (some 175) l1 l2 M) (y_PJ 262144 M) := by
  intro n
  induction n with
  | zero =>
    intro l1 l2 M H W h1 h2 hm
    exfalso
    omega
  | succ n ih =>
    intro l1 l2 M H W h1 h2 hm
    show Ok (F_X12_summedBy_b2 (F_X12_summedBy_L2 n) (some 175) l1 l2 M) _
    delta F_X12_summedBy_b2
    have z1 : (1 : Int32).toInt = 1 := rfl
    have z2 : (2 : Int32).toInt = 2 := rfl
    have z3 : (3 : Int32).toInt = 3 := rfl
    have hr := H.2.1 175 (by decide) 2
    have hr2 : (M.2.1 175 2).toInt ≤ 6 := hr.2
    refine y_gR (w := 180) H rfl (by decide) ?_
    refine y_aIr (lo := 0) (hi := 12) H (i := 180) (n := 6) rfl (by decide) (by omega) (by omega) rfl (fun v2 q2 e2 => ?_)
    refine Ok_i (fun c => ?_) (fun c => ?_)
    · exact z_PJ H (y_rf0 _ _)
    · replace c := i_nle c
      have a1 := i_mulL (c := (48 : Int32)) (x := l1) (n := 48) rfl (by omega) (by omega)
      have a2 := i_mulL (c := (4 : Int32)) (x := l2) (n := 4) rfl (by omega) (by omega)
      have a3 := i_add (x := (48 : Int32) * l1) (y := (4 : Int32) * l2) (by omega) (by omega)
      have a4 := i_addc (x := (48 : Int32) * l1 + (4 : Int32) * l2) (c := (2 : Int32)) z2 (by omega) (by omega)
      have a5 := i_addc (x := (48 : Int32) * l1 + (4 : Int32) * l2) (c := (3 : Int32)) z3 (by omega) (by omega)
      have a6 := i_addc (x := l2) (c := (1 : Int32)) z1 (by omega) (by omega)
      have e1 := i_clamp (x := l1) h1.1
      have e3 := i_clamp (x := l2) h2.1
      have cl := y_rul (l1 := l1) (l2 := l2) W h1 h2.1 (by rw [q2]; exact c)
      have b58 : ∀ {M1 : gM}, y_HT M1 → y_Fr 262144 M M1 → Ok (F_X12_summedBy_b58 (some 175) l1 ((48 : Int32) * l1 + (4 : Int32) * l2) M1) (y_PJ 262144 M) := by
        intro M1 H1 f1
        refine v_PJ (S1 := 262144) f1 ?_ (by decide)
        have W1 := y_Wf f1 (by decide) W
        have r1 : M1.2.1 175 2 = M.2.1 175 2 := y_fk f1 (by decide)
        have r2 : M1.2.1 180 l1.toNatClampNeg = v2 := (y_fa (i := 180) f1 (by decide) (by decide) _).trans q2
        have cl1 := y_rul (l1 := l1) (l2 := l2) W1 (by rw [r1]; exact h1) h2.1 (by rw [r2]; exact c)
        exact S_X12_summedBy_b58 (t := l1.toNatClampNeg) (q := 48 * l1.toNatClampNeg + 4 * l2.toNatClampNeg) H1 (by omega) (by omega) (by omega) (by omega) cl1
      refine y_gR (w := 179) H rfl (by decide) ?_
      refine y_aI H (i := 179) (n := 288) rfl (by decide) (by omega) (by omega) (fun v4 q4 => ?_)
      refine Ok_i (fun c2 => ?_) (fun c2 => ?_)
      · exact b58 H (y_rf0 _ _)
      · replace c2 := i_nlt c2
        have z0 : (0 : Int32).toInt = 0 := rfl
        rw [z0] at c2
        refine y_gR (w := 179) H rfl (by decide) ?_
        refine y_aIs H (i := 179) (n := 288) rfl (by decide) (by omega) (by omega) q4 ?_
        refine y_gR (w := 179) H rfl (by decide) ?_
        refine y_aI H (i := 179) (n := 288) rfl (by decide) (by omega) (by omega) (fun v8 q8 => ?_)
        refine y_gO H ?_
        have e4 := i_clamp (x := (48 : Int32) * l1 + (4 : Int32) * l2 + (2 : Int32)) (by omega)
        have e5 := i_clamp (x := (48 : Int32) * l1 + (4 : Int32) * l2 + (3 : Int32)) (by omega)
        have f4 : ((48 : Int32) * l1 + (4 : Int32) * l2 + (2 : Int32)).toNatClampNeg = 48 * l1.toNatClampNeg + 4 * l2.toNatClampNeg + 2 := by omega
        have f5 : ((48 : Int32) * l1 + (4 : Int32) * l2 + (3 : Int32)).toNatClampNeg = 48 * l1.toNatClampNeg + 4 * l2.toNatClampNeg + 3 := by omega
        rw [f4] at q4
        rw [f5] at q8
        have g := cl.2
        rw [q4, q8] at g
        refine Ok_b (S_X12_reckons (t := l1.toNatClampNeg) H (by omega) (by omega) (g c2)) (fun y z => ?_)
        obtain ⟨v10, M11⟩ := y
        obtain ⟨H11, f11⟩ := z
        dsimp only at H11 f11
        refine Ok_i (fun _ => ?_) (fun _ => ?_)
        · exact b58 H11 f11
        · have W1 := y_Wf f11 (by decide) W
          have r1 : M11.2.1 175 2 = M.2.1 175 2 := y_fk f11 (by decide)
          exact v_PJ (S1 := 262144) f11 (ih H11 W1 (by rw [r1]; exact h1) (by omega) (by omega)) (by decide)
theorem S_X12_summedBy {l1 : Int32} {M : gM} (H : y_HT M) (W : y_W M) (h : 0 ≤ l1.toInt ∧ l1.toInt < (M.2.1 175 2).toInt) : Ok (F_X12_summedBy (some 175) l1 M) (y_PJ 262144 M) := by
  delta F_X12_summedBy F_X12_summedBy_b0
  exact S_X12_summedBy_L2 g_fuel H W h (by decide) (by decide)
set_option maxHeartbeats 1000000 in
theorem S_X12_lossOf_b0 {l1 : Int32} {l2 : Int32} {M : gM} (H : y_HT M) (h_l1 : 0 ≤ l1.toInt ∧ l1.toInt ≤ 6) (h_l2 : 0 ≤ l2.toInt ∧ l2.toInt ≤ 6) (W : y_W M) : Ok (F_X12_lossOf_b0 (some 175) l1 l2 M) (y_PI 262144 M (-2147483648) (2147483647)) := by
  delta F_X12_lossOf_b0
  have z0 : (0 : Int32).toInt = 0 := rfl
  refine y_gI (lo := -1) (hi := 5) H rfl (fun v1 q1 e1 => ?_)
  refine Ok_i (fun c => ?_) (fun c => ?_)
  · replace c := i_le c
    refine y_gO H ?_
    refine Ok_b (S_X12_words H h_l1 h_l2) (fun M3 z3 => ?_)
    obtain ⟨H3, f3⟩ := z3
    have q3 : M3.2.1 175 21 = v1 := (y_fk f3 (by decide)).trans q1
    refine y_gIs H3 q3 ?_
    refine y_gC H3 ?_
    have W3 := y_Wf f3 (by decide) W
    have hf := W3.1.1
    rw [q3] at hf
    refine Ok_b (S_X12_summedBy H3 W3 ⟨by omega, hf⟩) (fun y z => ?_)
    obtain ⟨v6, M7⟩ := y
    obtain ⟨H7, f7⟩ := z
    dsimp only at H7 f7
    have F := y_tr (y_fl (S2 := 262144) (by decide) f3) f7
    refine Ok_i (fun _ => ?_) (fun _ => ?_)
    · refine Ok_i (fun _ => ?_) (fun _ => ?_)
      · exact z_PI (i_rng _) H7 F
      · exact z_PI (i_rng _) H7 F
    · exact z_PI (i_rng _) H7 F
  · have a1 := i_mulL (c := (2 : Int32)) (x := l1) (n := 2) rfl (by omega) (by omega)
    have a2 := i_cadd (c := (38 : Int32)) (x := (2 : Int32) * l1) (n := 38) rfl (by omega) (by omega)
    refine y_gR (w := 185) H rfl (by decide) ?_
    refine y_aIr (lo := 0) (hi := 99) H (i := 185) (n := 157) rfl (by decide) (by omega) (by omega) (y_dj38 (p := 185) (l := l1.toInt) rfl (by omega) (by omega)) (fun v9 q9 e9 => ?_)
    refine y_gO H ?_
    refine Ok_b (S_X12_fades H h_l1 h_l2 e9) (fun v11 e11 => ?_)
    exact z_PI (i_rng _) H (y_rf0 _ _)
theorem S_X12_lossOf {l1 : Int32} {l2 : Int32} {M : gM} (H : y_HT M) (h_l1 : 0 ≤ l1.toInt ∧ l1.toInt ≤ 6) (h_l2 : 0 ≤ l2.toInt ∧ l2.toInt ≤ 6) (W : y_W M) : Ok (F_X12_lossOf (some 175) l1 l2 M) (y_PI 262144 M (-2147483648) (2147483647)) := by
  delta F_X12_lossOf
  exact v_PI (S1 := 262144) (y_rf0 _ _) (S_X12_lossOf_b0  H h_l1 h_l2 W) (by decide) (by decide) (by decide)
theorem S_X12_knowsNow_b54 {s1 : Int32} {s2 : Int32} {M : gM} (H : y_HT M) (h_s1 : 60 ≤ s1.toInt ∧ s1.toInt ≤ 156) (h_s2 : 0 ≤ s2.toInt) : Ok (F_X12_knowsNow_b54 (some 185) s1 s2 M) (y_PV 1125899906842624 M) := by
  delta F_X12_knowsNow_b54
  refine y_sI (S := 1125899906842624) H (i := 185) (n := 157) rfl (by omega) (by omega) (y_full (y_dj51 (p := 185) rfl (by omega))) (by decide) (fun M1 HM1 fM1 q_M1 o_M1 l_M1 => ?_)
  exact z_PV HM1 fM1
set_option maxHeartbeats 1000000 in
theorem S_X12_knowsNow_b25 {l1 : Int32} {l2 : Int32} {l4 : Int32} {s1 : Int32} {s2 : Int32} {M : gM} (H : y_HT M) (h_l1 : 0 ≤ l1.toInt ∧ l1.toInt ≤ 6) (h_l2 : 0 ≤ l2.toInt ∧ l2.toInt ≤ 6) (h_s1 : 59 ≤ s1.toInt ∧ s1.toInt ≤ 155) : Ok (F_X12_knowsNow_b25 (some 175) l1 l2 l4 (some 185) s1 s2 M) (y_PV 1125899906842624 M) := by
  delta F_X12_knowsNow_b25
  refine y_sI (S := 1125899906842624) H (i := 185) (n := 157) rfl (by omega) (by omega) (y_full (y_dj51 (p := 185) rfl (by omega))) (by decide) (fun M1 HM1 fM1 q_M1 o_M1 l_M1 => ?_)
  refine y_gR (w := 185) HM1 rfl (by decide) ?_
  refine Ok_i (fun c_1 => ?_) (fun c_1 => ?_)
  · skip
    replace c_1 := i_le c_1
    rw [L2_0] at c_1
    have a_2 := i_mulL (c := (14 : Int32)) (x := l1) L2_14 (by omega) (by omega)
    have a_3 := i_cadd (c := (59 : Int32)) (x := ((14 : Int32) * l1)) L2_59 (by omega) (by omega)
    have a_4 := i_mulL (c := (2 : Int32)) (x := l2) L2_2 (by omega) (by omega)
    have a_5 := i_add (x := ((59 : Int32) + ((14 : Int32) * l1))) (y := ((2 : Int32) * l2)) (by omega) (by omega)
    have a_6 := i_addc (x := (((59 : Int32) + ((14 : Int32) * l1)) + ((2 : Int32) * l2))) (c := (1 : Int32)) L2_1 (by omega) (by omega)
    exact v_PV (S1 := 1125899906842624) fM1 (S_X12_knowsNow_b54  HM1 (by omega) (by decide)) (by decide)
  · skip
    replace c_1 := i_nle c_1
    rw [L2_0] at c_1
    have a_7 := i_mulL (c := (14 : Int32)) (x := l1) L2_14 (by omega) (by omega)
    have a_8 := i_cadd (c := (59 : Int32)) (x := ((14 : Int32) * l1)) L2_59 (by omega) (by omega)
    have a_9 := i_mulL (c := (2 : Int32)) (x := l2) L2_2 (by omega) (by omega)
    have a_10 := i_add (x := ((59 : Int32) + ((14 : Int32) * l1))) (y := ((2 : Int32) * l2)) (by omega) (by omega)
    have a_11 := i_addc (x := (((59 : Int32) + ((14 : Int32) * l1)) + ((2 : Int32) * l2))) (c := (1 : Int32)) L2_1 (by omega) (by omega)
    exact v_PV (S1 := 1125899906842624) fM1 (S_X12_knowsNow_b54  HM1 (by omega) (by omega)) (by decide)
theorem S_X12_knowsNow_b0 {l1 : Int32} {l2 : Int32} {l3 : Int32} {l4 : Int32} {M : gM} (H : y_HT M) (h_l1 : 0 ≤ l1.toInt ∧ l1.toInt ≤ 6) (h_l2 : 0 ≤ l2.toInt ∧ l2.toInt ≤ 6) : Ok (F_X12_knowsNow_b0 (some 175) l1 l2 l3 l4 M) (y_PV 1125899906842624 M) := by
  delta F_X12_knowsNow_b0
  refine y_gR (w := 185) H rfl (by decide) ?_
  refine Ok_i (fun c_1 => ?_) (fun c_1 => ?_)
  · skip
    replace c_1 := i_le c_1
    rw [L2_0] at c_1
    have a_2 := i_mulL (c := (14 : Int32)) (x := l1) L2_14 (by omega) (by omega)
    have a_3 := i_cadd (c := (59 : Int32)) (x := ((14 : Int32) * l1)) L2_59 (by omega) (by omega)
    have a_4 := i_mulL (c := (2 : Int32)) (x := l2) L2_2 (by omega) (by omega)
    have a_5 := i_add (x := ((59 : Int32) + ((14 : Int32) * l1))) (y := ((2 : Int32) * l2)) (by omega) (by omega)
    exact v_PV (S1 := 1125899906842624) (y_rf0 _ _) (S_X12_knowsNow_b25  H h_l1 h_l2 (by omega)) (by decide)
  · skip
    replace c_1 := i_nle c_1
    rw [L2_0] at c_1
    have a_6 := i_mulL (c := (14 : Int32)) (x := l1) L2_14 (by omega) (by omega)
    have a_7 := i_cadd (c := (59 : Int32)) (x := ((14 : Int32) * l1)) L2_59 (by omega) (by omega)
    have a_8 := i_mulL (c := (2 : Int32)) (x := l2) L2_2 (by omega) (by omega)
    have a_9 := i_add (x := ((59 : Int32) + ((14 : Int32) * l1))) (y := ((2 : Int32) * l2)) (by omega) (by omega)
    exact v_PV (S1 := 1125899906842624) (y_rf0 _ _) (S_X12_knowsNow_b25  H h_l1 h_l2 (by omega)) (by decide)
theorem S_X12_knowsNow {l1 : Int32} {l2 : Int32} {l3 : Int32} {l4 : Int32} {M : gM} (H : y_HT M) (h_l1 : 0 ≤ l1.toInt ∧ l1.toInt ≤ 6) (h_l2 : 0 ≤ l2.toInt ∧ l2.toInt ≤ 6) : Ok (F_X12_knowsNow (some 175) l1 l2 l3 l4 M) (y_PV 1125899906842624 M) := by
  delta F_X12_knowsNow
  exact v_PV (S1 := 1125899906842624) (y_rf0 _ _) (S_X12_knowsNow_b0  H h_l1 h_l2) (by decide)
theorem S_X12_passes_b228 {k176 : Option Nat → Int32 → Int32 → gM → Option (Int32 × gM)} {m176 : Int} {l1 : Int32} {l2 : Int32} {M : gM} (hk176 : ∀ {l1 : Int32} {l2 : Int32} {M : gM}, y_HT M → (0 ≤ l2.toInt ∧ l2.toInt ≤ 7) → (y_W M) → 7 - l2.toInt < m176 → Ok (k176 (some 175) l1 l2 M) (y_PI 3377699720790016 M (-2147483648) (2147483647))) (H : y_HT M) (h_l2 : 0 ≤ l2.toInt ∧ l2.toInt ≤ 6) (W : y_W M) (hm176 : 7 - l2.toInt ≤ m176) : Ok (F_X12_passes_b228 k176 (some 175) l1 l2 M) (y_PI 3377699720790016 M (-2147483648) (2147483647)) := by
  delta F_X12_passes_b228
  have a_1 := i_addc (x := l2) (c := 1) L2_1 (by omega) (by omega)
  exact v_PI (S1 := 3377699720790016) (y_rf0 _ _) (hk176 H (by omega) W (by omega)) (by decide) (by decide) (by decide)
set_option maxHeartbeats 1000000 in
theorem S_X12_passes_b176 {k176 : Option Nat → Int32 → Int32 → gM → Option (Int32 × gM)} {m176 : Int} {l1 : Int32} {l2 : Int32} {M : gM} (hk176 : ∀ {l1 : Int32} {l2 : Int32} {M : gM}, y_HT M → (0 ≤ l2.toInt ∧ l2.toInt ≤ 7) → (y_W M) → 7 - l2.toInt < m176 → Ok (k176 (some 175) l1 l2 M) (y_PI 3377699720790016 M (-2147483648) (2147483647))) (H : y_HT M) (h_l2 : 0 ≤ l2.toInt ∧ l2.toInt ≤ 7) (W : y_W M) (hm176 : 7 - l2.toInt ≤ m176) : Ok (F_X12_passes_b176 k176 (some 175) l1 l2 M) (y_PI 3377699720790016 M (-2147483648) (2147483647)) := by
  delta F_X12_passes_b176
  refine y_gR (w := 185) H rfl (by decide) ?_
  refine y_aIr (lo := 0) (hi := 7) H (i := 185) (n := 157) rfl (by decide) (by decide) (by decide) rfl (fun v2 q_v2 e_v2 => ?_)
  refine Ok_i (fun c_1 => ?_) (fun c_1 => ?_)
  · skip
    replace c_1 := i_le c_1
    refine y_gR (w := 185) H rfl (by decide) ?_
    refine y_aI H (i := 185) (n := 157) rfl (by decide) (by decide) (by decide) (fun v4 q_v4 => ?_)
    refine y_sI (S := 3377699720790016) H (i := 185) (n := 157) rfl (by decide) (by decide) (y_full rfl) (by decide) (fun M5 HM5 fM5 q_M5 o_M5 l_M5 => ?_)
    exact z_PI (i_rng _) HM5 fM5
  · skip
    replace c_1 := i_nle c_1
    refine y_gO H ?_
    refine Ok_b (S_X12_thingOf H (by omega) (by decide)) (fun v7 e_v7 => ?_)
    clear e_v7
    refine Ok_i (fun c_2 => ?_) (fun c_2 => ?_)
    · skip
      replace c_2 := i_le c_2
      rw [L2_0] at c_2
      exact v_PI (S1 := 3377699720790016) (y_rf0 _ _) (S_X12_passes_b228 hk176 H (by omega) W (by omega)) (by decide) (by decide) (by decide)
    · skip
      replace c_2 := i_nle c_2
      rw [L2_0] at c_2
      refine Ok_b (S_X12_holdersOf H (by omega)) (fun v8 e_v8 => ?_)
      clear e_v8
      refine Ok_i (fun c_3 => ?_) (fun c_3 => ?_)
      · skip
        replace c_3 := i_eq c_3
        rw [L2_0] at c_3
        refine y_gR (w := 185) H rfl (by decide) ?_
        refine y_gR (w := 185) H rfl (by decide) ?_
        refine y_aI H (i := 185) (n := 157) rfl (by decide) (by decide) (by decide) (fun v11 q_v11 => ?_)
        have a_4 := i_mulL (c := (4 : Int32)) (x := l2) L2_4 (by omega) (by omega)
        have a_5 := i_cadd (c := (10 : Int32)) (x := ((4 : Int32) * l2)) L2_10 (by omega) (by omega)
        have a_6 := i_addc (x := ((10 : Int32) + ((4 : Int32) * l2))) (c := (3 : Int32)) L2_3 (by omega) (by omega)
        refine y_sI (S := 3377699720790016) H (i := 185) (n := 157) rfl (by omega) (by omega) (y_full (y_dj13 (p := 185) (l := l2.toInt) rfl (by omega) (by omega))) (by decide) (fun M12 HM12 fM12 q_M12 o_M12 l_M12 => ?_)
        exact v_PI (S1 := 3377699720790016) fM12 (S_X12_passes_b228 hk176 HM12 (by omega) (y_Wf fM12 (by decide) W) (by omega)) (by decide) (by decide) (by decide)
      · skip
        replace c_3 := i_ne c_3
        rw [L2_0] at c_3
        exact v_PI (S1 := 3377699720790016) (y_rf0 _ _) (S_X12_passes_b228 hk176 H (by omega) W (by omega)) (by decide) (by decide) (by decide)
theorem S_X12_passes_L176 : ∀ (n : Nat) {l1 : Int32} {l2 : Int32} {M : gM}, y_HT M → (0 ≤ l2.toInt ∧ l2.toInt ≤ 7) → (y_W M) → 7 - l2.toInt < (n : Int) → Ok (F_X12_passes_L176 n (some 175) l1 l2 M) (y_PI 3377699720790016 M (-2147483648) (2147483647)) := by
  intro n
  induction n with
  | zero =>
    intro l1 l2 M H h_l2 W  hm
    exfalso
    omega
  | succ n ih =>
    intro l1 l2 M H h_l2 W  hm
    exact S_X12_passes_b176 (m176 := 7 - l2.toInt) (fun H h_l2 W  hmz => ih H h_l2 W  (by omega)) H h_l2 W  (Int.le_refl _)
theorem S_X12_passes_b168 {k70 : Option Nat → Int32 → Int32 → gM → Option (Int32 × gM)} {m70 : Int} {l1 : Int32} {l2 : Int32} {M : gM} (hk70 : ∀ {l1 : Int32} {l2 : Int32} {M : gM}, y_HT M → (0 ≤ l1.toInt ∧ l1.toInt ≤ 0) → (0 ≤ l2.toInt ∧ l2.toInt ≤ 7) → (y_W M) → 7 - l2.toInt < m70 → Ok (k70 (some 175) l1 l2 M) (y_PI 3377699720790016 M (-2147483648) (2147483647))) (H : y_HT M) (h_l1 : 0 ≤ l1.toInt ∧ l1.toInt ≤ 0) (h_l2 : 0 ≤ l2.toInt ∧ l2.toInt ≤ 6) (W : y_W M) (hm70 : 7 - l2.toInt ≤ m70) : Ok (F_X12_passes_b168 k70 (some 175) l1 l2 M) (y_PI 3377699720790016 M (-2147483648) (2147483647)) := by
  delta F_X12_passes_b168
  have a_1 := i_addc (x := l2) (c := 1) L2_1 (by omega) (by omega)
  exact v_PI (S1 := 3377699720790016) (y_rf0 _ _) (hk70 H h_l1 (by omega) W (by omega)) (by decide) (by decide) (by decide)
theorem S_X12_passes_b131 {k70 : Option Nat → Int32 → Int32 → gM → Option (Int32 × gM)} {m70 : Int} {k82 : Option Nat → Int32 → Int32 → Int32 → gM → Option (Int32 × gM)} {m82 : Int} {l1 : Int32} {l2 : Int32} {l3 : Int32} {M : gM} (hk70 : ∀ {l1 : Int32} {l2 : Int32} {M : gM}, y_HT M → (0 ≤ l1.toInt ∧ l1.toInt ≤ 0) → (0 ≤ l2.toInt ∧ l2.toInt ≤ 7) → (y_W M) → 7 - l2.toInt < m70 → Ok (k70 (some 175) l1 l2 M) (y_PI 3377699720790016 M (-2147483648) (2147483647))) (hk82 : ∀ {l1 : Int32} {l2 : Int32} {l3 : Int32} {M : gM}, y_HT M → (0 ≤ l1.toInt ∧ l1.toInt ≤ 0) → (0 ≤ l2.toInt ∧ l2.toInt ≤ 6) → (0 ≤ l3.toInt ∧ l3.toInt ≤ 7) → (y_W M) → 7 - l2.toInt ≤ m70 → 7 - l3.toInt < m82 → Ok (k82 (some 175) l1 l2 l3 M) (y_PI 3377699720790016 M (-2147483648) (2147483647))) (H : y_HT M) (h_l1 : 0 ≤ l1.toInt ∧ l1.toInt ≤ 0) (h_l2 : 0 ≤ l2.toInt ∧ l2.toInt ≤ 6) (h_l3 : 0 ≤ l3.toInt ∧ l3.toInt ≤ 6) (W : y_W M) (hm70 : 7 - l2.toInt ≤ m70) (hm82 : 7 - l3.toInt ≤ m82) : Ok (F_X12_passes_b131 k70 k82 (some 175) l1 l2 l3 M) (y_PI 3377699720790016 M (-2147483648) (2147483647)) := by
  delta F_X12_passes_b131
  have a_1 := i_addc (x := l3) (c := 1) L2_1 (by omega) (by omega)
  exact v_PI (S1 := 3377699720790016) (y_rf0 _ _) (hk82 H h_l1 h_l2 (by omega) W (by omega) (by omega)) (by decide) (by decide) (by decide)
set_option maxHeartbeats 1000000 in
theorem S_X12_passes_b82 {k70 : Option Nat → Int32 → Int32 → gM → Option (Int32 × gM)} {m70 : Int} {k82 : Option Nat → Int32 → Int32 → Int32 → gM → Option (Int32 × gM)} {m82 : Int} {l1 : Int32} {l2 : Int32} {l3 : Int32} {M : gM} (hk70 : ∀ {l1 : Int32} {l2 : Int32} {M : gM}, y_HT M → (0 ≤ l1.toInt ∧ l1.toInt ≤ 0) → (0 ≤ l2.toInt ∧ l2.toInt ≤ 7) → (y_W M) → 7 - l2.toInt < m70 → Ok (k70 (some 175) l1 l2 M) (y_PI 3377699720790016 M (-2147483648) (2147483647))) (hk82 : ∀ {l1 : Int32} {l2 : Int32} {l3 : Int32} {M : gM}, y_HT M → (0 ≤ l1.toInt ∧ l1.toInt ≤ 0) → (0 ≤ l2.toInt ∧ l2.toInt ≤ 6) → (0 ≤ l3.toInt ∧ l3.toInt ≤ 7) → (y_W M) → 7 - l2.toInt ≤ m70 → 7 - l3.toInt < m82 → Ok (k82 (some 175) l1 l2 l3 M) (y_PI 3377699720790016 M (-2147483648) (2147483647))) (H : y_HT M) (h_l1 : 0 ≤ l1.toInt ∧ l1.toInt ≤ 0) (h_l2 : 0 ≤ l2.toInt ∧ l2.toInt ≤ 6) (h_l3 : 0 ≤ l3.toInt ∧ l3.toInt ≤ 7) (W : y_W M) (hm70 : 7 - l2.toInt ≤ m70) (hm82 : 7 - l3.toInt ≤ m82) : Ok (F_X12_passes_b82 k70 k82 (some 175) l1 l2 l3 M) (y_PI 3377699720790016 M (-2147483648) (2147483647)) := by
  delta F_X12_passes_b82
  refine y_gR (w := 185) H rfl (by decide) ?_
  refine y_aIr (lo := 0) (hi := 7) H (i := 185) (n := 157) rfl (by decide) (by decide) (by decide) rfl (fun v2 q_v2 e_v2 => ?_)
  refine Ok_i (fun c_1 => ?_) (fun c_1 => ?_)
  · skip
    replace c_1 := i_le c_1
    refine y_gR (w := 185) H rfl (by decide) ?_
    have a_2 := i_mulL (c := (2 : Int32)) (x := l2) L2_2 (by omega) (by omega)
    have a_3 := i_cadd (c := (38 : Int32)) (x := ((2 : Int32) * l2)) L2_38 (by omega) (by omega)
    refine y_aIr (lo := 0) (hi := 99) H (i := 185) (n := 157) rfl (by decide) (by omega) (by omega) (y_dj38 (p := 185) (l := l2.toInt) rfl (by omega) (by omega)) (fun v4 q_v4 e_v4 => ?_)
    refine Ok_i (fun c_4 => ?_) (fun c_4 => ?_)
    · skip
      replace c_4 := i_le c_4
      rw [L2_99] at c_4
      exact v_PI (S1 := 3377699720790016) (y_rf0 _ _) (S_X12_passes_b168 hk70 H h_l1 h_l2 W (by omega)) (by decide) (by decide) (by decide)
    · skip
      replace c_4 := i_nle c_4
      rw [L2_99] at c_4
      refine y_gR (w := 185) H rfl (by decide) ?_
      refine y_aI2 H (i := 185) (n := 157) rfl (by decide) (by omega) (by omega) q_v4 (fun v6 e_v6 => ?_)
      have t_v6 := congrArg Int32.toInt e_v6
      have q_v6 := q_v4.trans e_v6.symm
      have a_5 := i_addc (x := v6) (c := (1 : Int32)) L2_1 (by omega) (by omega)
      refine y_sI (S := 3377699720790016) H (i := 185) (n := 157) rfl (by omega) (by omega) (y_in (lo := 0) (hi := 99) (y_dj38 (p := 185) (l := l2.toInt) rfl (by omega) (by omega)) (by omega)) (by decide) (fun M7 HM7 fM7 q_M7 o_M7 l_M7 => ?_)
      exact v_PI (S1 := 3377699720790016) fM7 (S_X12_passes_b168 hk70 HM7 h_l1 h_l2 (y_Wf fM7 (by decide) W) (by omega)) (by decide) (by decide) (by decide)
  · skip
    replace c_1 := i_nle c_1
    refine y_gO H ?_
    refine Ok_b (S_X12_knowsOf H h_l2 (by omega)) (fun v9 e_v9 => ?_)
    replace e_v9 := q_un e_v9
    refine Ok_i (fun c_6 => ?_) (fun c_6 => ?_)
    · skip
      replace c_6 := i_eq c_6
      rw [L2_0] at c_6
      exact v_PI (S1 := 3377699720790016) (y_rf0 _ _) (S_X12_passes_b131 hk70 hk82 H h_l1 h_l2 (by omega) W (by omega) (by omega)) (by decide) (by decide) (by decide)
    · skip
      replace c_6 := i_ne c_6
      rw [L2_0] at c_6
      refine Ok_b (S_X12_valueOf H h_l2 (by omega)) (fun v10 e_v10 => ?_)
      clear e_v10
      refine Ok_b (S_X12_strengthOf H h_l2 (by omega)) (fun v11 e_v11 => ?_)
      clear e_v11
      refine y_gR (w := 186) H rfl (by decide) ?_
      have a_7 := i_mulL (c := (7 : Int32)) (x := l2) L2_7 (by omega) (by omega)
      have a_8 := i_add (x := ((7 : Int32) * l2)) (y := l3) (by omega) (by omega)
      refine y_aI H (i := 186) (n := 49) rfl (by decide) (by omega) (by omega) (fun v13 q_v13 => ?_)
      refine Ok_b (S_X12_knowsNow H h_l2 (by omega)) (fun M14 zM14 => ?_)
      obtain ⟨HM14, fM14⟩ := zM14
      exact v_PI (S1 := 3377699720790016) (y_fl (S2 := 3377699720790016) (by decide) fM14) (S_X12_passes_b131 hk70 hk82 HM14 h_l1 h_l2 (by omega) (y_Wf (y_fl (S2 := 3377699720790016) (by decide) fM14) (by decide) W) (by omega) (by omega)) (by decide) (by decide) (by decide)
theorem S_X12_passes_L82 {k70 : Option Nat → Int32 → Int32 → gM → Option (Int32 × gM)} {m70 : Int} (hk70 : ∀ {l1 : Int32} {l2 : Int32} {M : gM}, y_HT M → (0 ≤ l1.toInt ∧ l1.toInt ≤ 0) → (0 ≤ l2.toInt ∧ l2.toInt ≤ 7) → (y_W M) → 7 - l2.toInt < m70 → Ok (k70 (some 175) l1 l2 M) (y_PI 3377699720790016 M (-2147483648) (2147483647))) : ∀ (n : Nat) {l1 : Int32} {l2 : Int32} {l3 : Int32} {M : gM}, y_HT M → (0 ≤ l1.toInt ∧ l1.toInt ≤ 0) → (0 ≤ l2.toInt ∧ l2.toInt ≤ 6) → (0 ≤ l3.toInt ∧ l3.toInt ≤ 7) → (y_W M) → 7 - l2.toInt ≤ m70 → 7 - l3.toInt < (n : Int) → Ok (F_X12_passes_L82 k70 n (some 175) l1 l2 l3 M) (y_PI 3377699720790016 M (-2147483648) (2147483647)) := by
  intro n
  induction n with
  | zero =>
    intro l1 l2 l3 M H h_l1 h_l2 h_l3 W hm70 hm
    exfalso
    omega
  | succ n ih =>
    intro l1 l2 l3 M H h_l1 h_l2 h_l3 W hm70 hm
    exact S_X12_passes_b82 (m82 := 7 - l3.toInt) hk70 (fun H h_l1 h_l2 h_l3 W hm70 hmz => ih H h_l1 h_l2 h_l3 W hm70 (by omega)) H h_l1 h_l2 h_l3 W hm70 (Int.le_refl _)
theorem S_X12_passes_b70 {k70 : Option Nat → Int32 → Int32 → gM → Option (Int32 × gM)} {m70 : Int} {l1 : Int32} {l2 : Int32} {M : gM} (hk70 : ∀ {l1 : Int32} {l2 : Int32} {M : gM}, y_HT M → (0 ≤ l1.toInt ∧ l1.toInt ≤ 0) → (0 ≤ l2.toInt ∧ l2.toInt ≤ 7) → (y_W M) → 7 - l2.toInt < m70 → Ok (k70 (some 175) l1 l2 M) (y_PI 3377699720790016 M (-2147483648) (2147483647))) (H : y_HT M) (h_l1 : 0 ≤ l1.toInt ∧ l1.toInt ≤ 0) (h_l2 : 0 ≤ l2.toInt ∧ l2.toInt ≤ 7) (W : y_W M) (hm70 : 7 - l2.toInt ≤ m70) : Ok (F_X12_passes_b70 k70 (some 175) l1 l2 M) (y_PI 3377699720790016 M (-2147483648) (2147483647)) := by
  delta F_X12_passes_b70
  refine y_gR (w := 185) H rfl (by decide) ?_
  refine y_aIr (lo := 0) (hi := 7) H (i := 185) (n := 157) rfl (by decide) (by decide) (by decide) rfl (fun v2 q_v2 e_v2 => ?_)
  refine Ok_i (fun c_1 => ?_) (fun c_1 => ?_)
  · skip
    replace c_1 := i_le c_1
    exact v_PI (S1 := 3377699720790016) (y_rf0 _ _) (S_X12_passes_L176  g_fuel H (by decide) W (q_fu (by rw [L2_0]; omega))) (by decide) (by decide) (by decide)
  · skip
    replace c_1 := i_nle c_1
    exact v_PI (S1 := 3377699720790016) (y_rf0 _ _) (S_X12_passes_L82 hk70 g_fuel H h_l1 (by omega) (by decide) W (by omega) (q_fu (by rw [L2_0]; omega))) (by decide) (by decide) (by decide)
theorem S_X12_passes_L70 : ∀ (n : Nat) {l1 : Int32} {l2 : Int32} {M : gM}, y_HT M → (0 ≤ l1.toInt ∧ l1.toInt ≤ 0) → (0 ≤ l2.toInt ∧ l2.toInt ≤ 7) → (y_W M) → 7 - l2.toInt < (n : Int) → Ok (F_X12_passes_L70 n (some 175) l1 l2 M) (y_PI 3377699720790016 M (-2147483648) (2147483647)) := by
  intro n
  induction n with
  | zero =>
    intro l1 l2 M H h_l1 h_l2 W  hm
    exfalso
    omega
  | succ n ih =>
    intro l1 l2 M H h_l1 h_l2 W  hm
    exact S_X12_passes_b70 (m70 := 7 - l2.toInt) (fun H h_l1 h_l2 W  hmz => ih H h_l1 h_l2 W  (by omega)) H h_l1 h_l2 W  (Int.le_refl _)
theorem S_X12_passes_b55 {k4 : Option Nat → Int32 → Int32 → gM → Option (Int32 × gM)} {m4 : Int} {k16 : Option Nat → Int32 → Int32 → Int32 → gM → Option (Int32 × gM)} {m16 : Int} {l1 : Int32} {l2 : Int32} {l3 : Int32} {s1 : Int32} {s2 : Int32} {M : gM} (hk4 : ∀ {l1 : Int32} {l2 : Int32} {M : gM}, y_HT M → (0 ≤ l1.toInt ∧ l1.toInt ≤ 0) → (0 ≤ l2.toInt ∧ l2.toInt ≤ 7) → (y_W M) → 7 - l2.toInt < m4 → Ok (k4 (some 175) l1 l2 M) (y_PI 3377699720790016 M (-2147483648) (2147483647))) (hk16 : ∀ {l1 : Int32} {l2 : Int32} {l3 : Int32} {M : gM}, y_HT M → (0 ≤ l1.toInt ∧ l1.toInt ≤ 0) → (0 ≤ l2.toInt ∧ l2.toInt ≤ 6) → (0 ≤ l3.toInt ∧ l3.toInt ≤ 7) → (y_W M) → 7 - l2.toInt ≤ m4 → 7 - l3.toInt < m16 → Ok (k16 (some 175) l1 l2 l3 M) (y_PI 3377699720790016 M (-2147483648) (2147483647))) (H : y_HT M) (h_l1 : 0 ≤ l1.toInt ∧ l1.toInt ≤ 0) (h_l2 : 0 ≤ l2.toInt ∧ l2.toInt ≤ 6) (h_l3 : 0 ≤ l3.toInt ∧ l3.toInt ≤ 6) (h_s1 : 0 ≤ s1.toInt ∧ s1.toInt ≤ 48) (W : y_W M) (hm4 : 7 - l2.toInt ≤ m4) (hm16 : 7 - l3.toInt ≤ m16) : Ok (F_X12_passes_b55 k4 k16 (some 175) l1 l2 l3 (some 186) s1 s2 M) (y_PI 3377699720790016 M (-2147483648) (2147483647)) := by
  delta F_X12_passes_b55
  refine y_sI (S := 3377699720790016) H (i := 186) (n := 49) rfl (by omega) (by omega) (y_full rfl) (by decide) (fun M1 HM1 fM1 q_M1 o_M1 l_M1 => ?_)
  have a_1 := i_addc (x := l3) (c := 1) L2_1 (by omega) (by omega)
  exact v_PI (S1 := 3377699720790016) fM1 (hk16 HM1 h_l1 h_l2 (by omega) (y_Wf fM1 (by decide) W) (by omega) (by omega)) (by decide) (by decide) (by decide)
set_option maxHeartbeats 1000000 in
theorem S_X12_passes_b16 {k4 : Option Nat → Int32 → Int32 → gM → Option (Int32 × gM)} {m4 : Int} {k16 : Option Nat → Int32 → Int32 → Int32 → gM → Option (Int32 × gM)} {m16 : Int} {l1 : Int32} {l2 : Int32} {l3 : Int32} {M : gM} (hk4 : ∀ {l1 : Int32} {l2 : Int32} {M : gM}, y_HT M → (0 ≤ l1.toInt ∧ l1.toInt ≤ 0) → (0 ≤ l2.toInt ∧ l2.toInt ≤ 7) → (y_W M) → 7 - l2.toInt < m4 → Ok (k4 (some 175) l1 l2 M) (y_PI 3377699720790016 M (-2147483648) (2147483647))) (hk16 : ∀ {l1 : Int32} {l2 : Int32} {l3 : Int32} {M : gM}, y_HT M → (0 ≤ l1.toInt ∧ l1.toInt ≤ 0) → (0 ≤ l2.toInt ∧ l2.toInt ≤ 6) → (0 ≤ l3.toInt ∧ l3.toInt ≤ 7) → (y_W M) → 7 - l2.toInt ≤ m4 → 7 - l3.toInt < m16 → Ok (k16 (some 175) l1 l2 l3 M) (y_PI 3377699720790016 M (-2147483648) (2147483647))) (H : y_HT M) (h_l1 : 0 ≤ l1.toInt ∧ l1.toInt ≤ 0) (h_l2 : 0 ≤ l2.toInt ∧ l2.toInt ≤ 6) (h_l3 : 0 ≤ l3.toInt ∧ l3.toInt ≤ 7) (W : y_W M) (hm4 : 7 - l2.toInt ≤ m4) (hm16 : 7 - l3.toInt ≤ m16) : Ok (F_X12_passes_b16 k4 k16 (some 175) l1 l2 l3 M) (y_PI 3377699720790016 M (-2147483648) (2147483647)) := by
  delta F_X12_passes_b16
  refine y_gR (w := 185) H rfl (by decide) ?_
  refine y_aIr (lo := 0) (hi := 7) H (i := 185) (n := 157) rfl (by decide) (by decide) (by decide) rfl (fun v2 q_v2 e_v2 => ?_)
  refine Ok_i (fun c_1 => ?_) (fun c_1 => ?_)
  · skip
    replace c_1 := i_le c_1
    have a_2 := i_addc (x := l2) (c := 1) L2_1 (by omega) (by omega)
    exact v_PI (S1 := 3377699720790016) (y_rf0 _ _) (hk4 H h_l1 (by omega) W (by omega)) (by decide) (by decide) (by decide)
  · skip
    replace c_1 := i_nle c_1
    refine y_gR (w := 186) H rfl (by decide) ?_
    refine y_gO H ?_
    refine Ok_b (S_X12_knowsOf H h_l2 (by omega)) (fun v5 e_v5 => ?_)
    replace e_v5 := q_un e_v5
    refine Ok_i (fun c_3 => ?_) (fun c_3 => ?_)
    · skip
      replace c_3 := i_eq c_3
      rw [L2_0] at c_3
      have a_4 := i_mulL (c := (7 : Int32)) (x := l2) L2_7 (by omega) (by omega)
      have a_5 := i_add (x := ((7 : Int32) * l2)) (y := l3) (by omega) (by omega)
      exact v_PI (S1 := 3377699720790016) (y_rf0 _ _) (S_X12_passes_b55 hk4 hk16 H h_l1 h_l2 (by omega) (by omega) W (by omega) (by omega)) (by decide) (by decide) (by decide)
    · skip
      replace c_3 := i_ne c_3
      rw [L2_0] at c_3
      refine Ok_b (S_X12_lossOf H h_l2 (by omega) W) (fun yM7 zM7 => ?_)
      obtain ⟨v6, M7⟩ := yM7
      obtain ⟨e_v6, HM7, fM7⟩ := zM7
      try dsimp only at e_v6 HM7 fM7
      have a_6 := i_mulL (c := (7 : Int32)) (x := l2) L2_7 (by omega) (by omega)
      have a_7 := i_add (x := ((7 : Int32) * l2)) (y := l3) (by omega) (by omega)
      exact v_PI (S1 := 3377699720790016) (y_fl (S2 := 3377699720790016) (by decide) fM7) (S_X12_passes_b55 hk4 hk16 HM7 h_l1 h_l2 (by omega) (by omega) (y_Wf (y_fl (S2 := 3377699720790016) (by decide) fM7) (by decide) W) (by omega) (by omega)) (by decide) (by decide) (by decide)
theorem S_X12_passes_L16 {k4 : Option Nat → Int32 → Int32 → gM → Option (Int32 × gM)} {m4 : Int} (hk4 : ∀ {l1 : Int32} {l2 : Int32} {M : gM}, y_HT M → (0 ≤ l1.toInt ∧ l1.toInt ≤ 0) → (0 ≤ l2.toInt ∧ l2.toInt ≤ 7) → (y_W M) → 7 - l2.toInt < m4 → Ok (k4 (some 175) l1 l2 M) (y_PI 3377699720790016 M (-2147483648) (2147483647))) : ∀ (n : Nat) {l1 : Int32} {l2 : Int32} {l3 : Int32} {M : gM}, y_HT M → (0 ≤ l1.toInt ∧ l1.toInt ≤ 0) → (0 ≤ l2.toInt ∧ l2.toInt ≤ 6) → (0 ≤ l3.toInt ∧ l3.toInt ≤ 7) → (y_W M) → 7 - l2.toInt ≤ m4 → 7 - l3.toInt < (n : Int) → Ok (F_X12_passes_L16 k4 n (some 175) l1 l2 l3 M) (y_PI 3377699720790016 M (-2147483648) (2147483647)) := by
  intro n
  induction n with
  | zero =>
    intro l1 l2 l3 M H h_l1 h_l2 h_l3 W hm4 hm
    exfalso
    omega
  | succ n ih =>
    intro l1 l2 l3 M H h_l1 h_l2 h_l3 W hm4 hm
    exact S_X12_passes_b16 (m16 := 7 - l3.toInt) hk4 (fun H h_l1 h_l2 h_l3 W hm4 hmz => ih H h_l1 h_l2 h_l3 W hm4 (by omega)) H h_l1 h_l2 h_l3 W hm4 (Int.le_refl _)
theorem S_X12_passes_b4 {k4 : Option Nat → Int32 → Int32 → gM → Option (Int32 × gM)} {m4 : Int} {l1 : Int32} {l2 : Int32} {M : gM} (hk4 : ∀ {l1 : Int32} {l2 : Int32} {M : gM}, y_HT M → (0 ≤ l1.toInt ∧ l1.toInt ≤ 0) → (0 ≤ l2.toInt ∧ l2.toInt ≤ 7) → (y_W M) → 7 - l2.toInt < m4 → Ok (k4 (some 175) l1 l2 M) (y_PI 3377699720790016 M (-2147483648) (2147483647))) (H : y_HT M) (h_l1 : 0 ≤ l1.toInt ∧ l1.toInt ≤ 0) (h_l2 : 0 ≤ l2.toInt ∧ l2.toInt ≤ 7) (W : y_W M) (hm4 : 7 - l2.toInt ≤ m4) : Ok (F_X12_passes_b4 k4 (some 175) l1 l2 M) (y_PI 3377699720790016 M (-2147483648) (2147483647)) := by
  delta F_X12_passes_b4
  refine y_gR (w := 185) H rfl (by decide) ?_
  refine y_aIr (lo := 0) (hi := 7) H (i := 185) (n := 157) rfl (by decide) (by decide) (by decide) rfl (fun v2 q_v2 e_v2 => ?_)
  refine Ok_i (fun c_1 => ?_) (fun c_1 => ?_)
  · skip
    replace c_1 := i_le c_1
    exact v_PI (S1 := 3377699720790016) (y_rf0 _ _) (S_X12_passes_L70  g_fuel H h_l1 (by decide) W (q_fu (by rw [L2_0]; omega))) (by decide) (by decide) (by decide)
  · skip
    replace c_1 := i_nle c_1
    exact v_PI (S1 := 3377699720790016) (y_rf0 _ _) (S_X12_passes_L16 hk4 g_fuel H h_l1 (by omega) (by decide) W (by omega) (q_fu (by rw [L2_0]; omega))) (by decide) (by decide) (by decide)
theorem S_X12_passes_L4 : ∀ (n : Nat) {l1 : Int32} {l2 : Int32} {M : gM}, y_HT M → (0 ≤ l1.toInt ∧ l1.toInt ≤ 0) → (0 ≤ l2.toInt ∧ l2.toInt ≤ 7) → (y_W M) → 7 - l2.toInt < (n : Int) → Ok (F_X12_passes_L4 n (some 175) l1 l2 M) (y_PI 3377699720790016 M (-2147483648) (2147483647)) := by
  intro n
  induction n with
  | zero =>
    intro l1 l2 M H h_l1 h_l2 W  hm
    exfalso
    omega
  | succ n ih =>
    intro l1 l2 M H h_l1 h_l2 W  hm
    exact S_X12_passes_b4 (m4 := 7 - l2.toInt) (fun H h_l1 h_l2 W  hmz => ih H h_l1 h_l2 W  (by omega)) H h_l1 h_l2 W  (Int.le_refl _)
theorem S_X12_passes_b0  {M : gM} (H : y_HT M) (W : y_W M) : Ok (F_X12_passes_b0 (some 175) M) (y_PI 3377699720790016 M (-2147483648) (2147483647)) := by
  delta F_X12_passes_b0
  exact v_PI (S1 := 3377699720790016) (y_rf0 _ _) (S_X12_passes_L4  g_fuel H (by decide) (by decide) W (q_fu (by rw [L2_0]; omega))) (by decide) (by decide) (by decide)
theorem S_X12_passes  {M : gM} (H : y_HT M) (W : y_W M) : Ok (F_X12_passes (some 175) M) (y_PI 3377699720790016 M (-2147483648) (2147483647)) := by
  delta F_X12_passes
  exact v_PI (S1 := 3377699720790016) (y_rf0 _ _) (S_X12_passes_b0  H W) (by decide) (by decide) (by decide)
theorem S_X12_year_b19  {M : gM} (H : y_HT M) (W : y_W M) : Ok (F_X12_year_b19 M) (y_PI 7881299381714944 M (-2147483648) (2147483647)) := by
  delta F_X12_year_b19
  exact z_PI (i_rng _) H (y_rf0 _ _)
set_option maxHeartbeats 1000000 in
theorem S_X12_year_b0  {M : gM} (H : y_HT M) (W : y_W M) : Ok (F_X12_year_b0 (some 175) M) (y_PI 7881299381714944 M (-2147483648) (2147483647)) := by
  delta F_X12_year_b0
  refine y_gO H ?_
  refine Ok_b (S_X12_isHouse H) (fun v2 e_v2 => ?_)
  replace e_v2 := q_un e_v2
  refine Ok_i (fun c_1 => ?_) (fun c_1 => ?_)
  · skip
    replace c_1 := i_eq c_1
    rw [L2_0] at c_1
    exact v_PI (S1 := 7881299381714944) (y_rf0 _ _) (S_X12_year_b19  H W) (by decide) (by decide) (by decide)
  · skip
    replace c_1 := i_ne c_1
    rw [L2_0] at c_1
    refine y_gR (w := 185) H rfl (by decide) ?_
    refine y_aI H (i := 185) (n := 157) rfl (by decide) (by decide) (by decide) (fun v4 q_v4 => ?_)
    refine Ok_i (fun c_2 => ?_) (fun c_2 => ?_)
    · skip
      replace c_2 := i_eq c_2
      rw [L2_999] at c_2
      exact v_PI (S1 := 7881299381714944) (y_rf0 _ _) (S_X12_year_b19  H W) (by decide) (by decide) (by decide)
    · skip
      replace c_2 := i_ne c_2
      rw [L2_999] at c_2
      refine Ok_b (S_X12_keepsAct H) (fun M5 zM5 => ?_)
      obtain ⟨HM5, fM5⟩ := zM5
      refine y_gC HM5 ?_
      refine Ok_b (S_X12_passes HM5 (y_Wf (y_fl (S2 := 7881299381714944) (by decide) fM5) (by decide) W)) (fun yM8 zM8 => ?_)
      obtain ⟨v7, M8⟩ := yM8
      obtain ⟨e_v7, HM8, fM8⟩ := zM8
      try dsimp only at e_v7 HM8 fM8
      have g_3 := y_tr (y_fl (S2 := 7881299381714944) (by decide) fM5) (y_fl (S2 := 7881299381714944) (by decide) fM8)
      exact z_PI (i_rng _) HM8 g_3
theorem S_X12_year  {M : gM} (H : y_HT M) (W : y_W M) : Ok (F_X12_year (some 175) M) (y_PI 7881299381714944 M (-2147483648) (2147483647)) := by
  delta F_X12_year
  exact v_PI (S1 := 7881299381714944) (y_rf0 _ _) (S_X12_year_b0  H W) (by decide) (by decide) (by decide)
theorem S_X12_takes_b47 {s1 : Int32} {s2 : Int32} {s3 : Int32} {s4 : Int32} {M : gM} (H : y_HT M) (h_s1 : 0 ≤ s1.toInt ∧ s1.toInt ≤ 6) (h_s2 : 0 ≤ s2.toInt ∧ s2.toInt ≤ 6) (h_s4 : 1 ≤ s4.toInt) : Ok (F_X12_takes_b47 (some 175) s1 s2 s3 s4 M) (y_PI 1125899906842624 M (0) (1)) := by
  delta F_X12_takes_b47
  refine y_gO H ?_
  refine Ok_b (S_X12_knowsNow H h_s1 h_s2) (fun M2 zM2 => ?_)
  obtain ⟨HM2, fM2⟩ := zM2
  exact z_PI (by decide) HM2 fM2
theorem S_X12_takes_b26 {l1 : Int32} {l2 : Int32} {l3 : Int32} {l4 : Int32} {M : gM} (H : y_HT M) (h_l1 : 0 ≤ l1.toInt ∧ l1.toInt ≤ 6) (h_l2 : 0 ≤ l2.toInt ∧ l2.toInt ≤ 6) (h_l3 : 0 ≤ l3.toInt ∧ l3.toInt ≤ 6) : Ok (F_X12_takes_b26 (some 175) l1 l2 l3 l4 M) (y_PI 1125899906842624 M (0) (1)) := by
  delta F_X12_takes_b26
  refine y_gO H ?_
  refine Ok_b (S_X12_valueOf H h_l1 h_l3) (fun v2 e_v2 => ?_)
  clear e_v2
  refine Ok_i (fun c_1 => ?_) (fun c_1 => ?_)
  · skip
    replace c_1 := i_le c_1
    rw [L2_1] at c_1
    exact v_PI (S1 := 1125899906842624) (y_rf0 _ _) (S_X12_takes_b47  H h_l2 h_l3 (by omega)) (by decide) (by decide) (by decide)
  · skip
    replace c_1 := i_nle c_1
    rw [L2_1] at c_1
    exact v_PI (S1 := 1125899906842624) (y_rf0 _ _) (S_X12_takes_b47  H h_l2 h_l3 (by decide)) (by decide) (by decide) (by decide)
set_option maxHeartbeats 1000000 in
theorem S_X12_takes_b0 {l1 : Int32} {l2 : Int32} {l3 : Int32} {l4 : Int32} {M : gM} (H : y_HT M) (h_l1 : 0 ≤ l1.toInt ∧ l1.toInt ≤ 6) (h_l2 : 0 ≤ l2.toInt ∧ l2.toInt ≤ 6) (h_l3 : 0 ≤ l3.toInt ∧ l3.toInt ≤ 6) : Ok (F_X12_takes_b0 (some 175) l1 l2 l3 l4 M) (y_PI 1125899906842624 M (0) (1)) := by
  delta F_X12_takes_b0
  refine y_gO H ?_
  refine Ok_b (S_X12_knowsOf H h_l2 h_l3) (fun v2 e_v2 => ?_)
  replace e_v2 := q_un e_v2
  refine Ok_i (fun c_1 => ?_) (fun c_1 => ?_)
  · skip
    replace c_1 := i_eq c_1
    rw [L2_0] at c_1
    exact v_PI (S1 := 1125899906842624) (y_rf0 _ _) (S_X12_takes_b26  H h_l1 h_l2 h_l3) (by decide) (by decide) (by decide)
  · skip
    replace c_1 := i_ne c_1
    rw [L2_0] at c_1
    refine Ok_b (S_X12_strengthOf H h_l2 h_l3) (fun v3 e_v3 => ?_)
    clear e_v3
    refine Ok_b (S_X12_strengthOf H h_l1 h_l3) (fun v4 e_v4 => ?_)
    clear e_v4
    refine Ok_i (fun c_2 => ?_) (fun c_2 => ?_)
    · skip
      replace c_2 := i_lt c_2
      exact v_PI (S1 := 1125899906842624) (y_rf0 _ _) (S_X12_takes_b26  H h_l1 h_l2 h_l3) (by decide) (by decide) (by decide)
    · skip
      replace c_2 := i_nlt c_2
      exact z_PI (by decide) H (y_rf0 _ _)
theorem S_X12_takes {l1 : Int32} {l2 : Int32} {l3 : Int32} {l4 : Int32} {M : gM} (H : y_HT M) (h_l1 : 0 ≤ l1.toInt ∧ l1.toInt ≤ 6) (h_l2 : 0 ≤ l2.toInt ∧ l2.toInt ≤ 6) (h_l3 : 0 ≤ l3.toInt ∧ l3.toInt ≤ 6) : Ok (F_X12_takes (some 175) l1 l2 l3 l4 M) (y_PI 1125899906842624 M (0) (1)) := by
  delta F_X12_takes
  exact v_PI (S1 := 1125899906842624) (y_rf0 _ _) (S_X12_takes_b0  H h_l1 h_l2 h_l3) (by decide) (by decide) (by decide)
theorem S_X12_goesOn_b90 {l4 : Int32} {M : gM} (H : y_HT M) : Ok (F_X12_goesOn_b90 l4 M) (y_PI 1125899906842624 M (-2147483648) (2147483647)) := by
  delta F_X12_goesOn_b90
  exact z_PI (i_rng _) H (y_rf0 _ _)
theorem S_X12_goesOn_b84 {k9 : Option Nat → Int32 → Int32 → Int32 → Int32 → Int32 → Int32 → gM → Option (Int32 × gM)} {m9 : Int} {l1 : Int32} {l2 : Int32} {l3 : Int32} {l4 : Int32} {l5 : Int32} {l6 : Int32} {M : gM} (hk9 : ∀ {l1 : Int32} {l2 : Int32} {l3 : Int32} {l4 : Int32} {l5 : Int32} {l6 : Int32} {M : gM}, y_HT M → (0 ≤ l1.toInt ∧ l1.toInt ≤ 6) → (0 ≤ l2.toInt ∧ l2.toInt ≤ 6) → (0 ≤ l3.toInt ∧ l3.toInt ≤ 6) → (0 ≤ l5.toInt ∧ l5.toInt ≤ 3) → (0 ≤ l6.toInt ∧ l6.toInt ≤ 7) → 7 - l6.toInt < m9 → Ok (k9 (some 175) l1 l2 l3 l4 l5 l6 M) (y_PI 1125899906842624 M (-2147483648) (2147483647))) (H : y_HT M) (h_l1 : 0 ≤ l1.toInt ∧ l1.toInt ≤ 6) (h_l2 : 0 ≤ l2.toInt ∧ l2.toInt ≤ 6) (h_l3 : 0 ≤ l3.toInt ∧ l3.toInt ≤ 6) (h_l5 : 0 ≤ l5.toInt ∧ l5.toInt ≤ 3) (h_l6 : 0 ≤ l6.toInt ∧ l6.toInt ≤ 6) (hm9 : 7 - l6.toInt ≤ m9) : Ok (F_X12_goesOn_b84 k9 (some 175) l1 l2 l3 l4 l5 l6 M) (y_PI 1125899906842624 M (-2147483648) (2147483647)) := by
  delta F_X12_goesOn_b84
  have a_1 := i_addc (x := l6) (c := 1) L2_1 (by omega) (by omega)
  exact v_PI (S1 := 1125899906842624) (y_rf0 _ _) (hk9 H h_l1 h_l2 h_l3 h_l5 (by omega) (by omega)) (by decide) (by decide) (by decide)
theorem S_X12_goesOn_b81 {k9 : Option Nat → Int32 → Int32 → Int32 → Int32 → Int32 → Int32 → gM → Option (Int32 × gM)} {m9 : Int} {l1 : Int32} {l2 : Int32} {l3 : Int32} {l5 : Int32} {l6 : Int32} {s0 : Int32} {s1 : Int32} {M : gM} (hk9 : ∀ {l1 : Int32} {l2 : Int32} {l3 : Int32} {l4 : Int32} {l5 : Int32} {l6 : Int32} {M : gM}, y_HT M → (0 ≤ l1.toInt ∧ l1.toInt ≤ 6) → (0 ≤ l2.toInt ∧ l2.toInt ≤ 6) → (0 ≤ l3.toInt ∧ l3.toInt ≤ 6) → (0 ≤ l5.toInt ∧ l5.toInt ≤ 3) → (0 ≤ l6.toInt ∧ l6.toInt ≤ 7) → 7 - l6.toInt < m9 → Ok (k9 (some 175) l1 l2 l3 l4 l5 l6 M) (y_PI 1125899906842624 M (-2147483648) (2147483647))) (H : y_HT M) (h_l1 : 0 ≤ l1.toInt ∧ l1.toInt ≤ 6) (h_l2 : 0 ≤ l2.toInt ∧ l2.toInt ≤ 6) (h_l3 : 0 ≤ l3.toInt ∧ l3.toInt ≤ 6) (h_l5 : 1 ≤ l5.toInt ∧ l5.toInt ≤ 3) (h_l6 : 0 ≤ l6.toInt ∧ l6.toInt ≤ 6) (h_s1 : 0 ≤ s1.toInt ∧ s1.toInt ≤ 1) (hm9 : 7 - l6.toInt ≤ m9) : Ok (F_X12_goesOn_b81 k9 (some 175) l1 l2 l3 l5 l6 s0 s1 M) (y_PI 1125899906842624 M (-2147483648) (2147483647)) := by
  delta F_X12_goesOn_b81
  exact v_PI (S1 := 1125899906842624) (y_rf0 _ _) (S_X12_goesOn_b84 hk9 H h_l1 h_l2 h_l3 (by omega) h_l6 (by omega)) (by decide) (by decide) (by decide)
set_option maxHeartbeats 1000000 in
theorem S_X12_goesOn_b9 {k9 : Option Nat → Int32 → Int32 → Int32 → Int32 → Int32 → Int32 → gM → Option (Int32 × gM)} {m9 : Int} {l1 : Int32} {l2 : Int32} {l3 : Int32} {l4 : Int32} {l5 : Int32} {l6 : Int32} {M : gM} (hk9 : ∀ {l1 : Int32} {l2 : Int32} {l3 : Int32} {l4 : Int32} {l5 : Int32} {l6 : Int32} {M : gM}, y_HT M → (0 ≤ l1.toInt ∧ l1.toInt ≤ 6) → (0 ≤ l2.toInt ∧ l2.toInt ≤ 6) → (0 ≤ l3.toInt ∧ l3.toInt ≤ 6) → (0 ≤ l5.toInt ∧ l5.toInt ≤ 3) → (0 ≤ l6.toInt ∧ l6.toInt ≤ 7) → 7 - l6.toInt < m9 → Ok (k9 (some 175) l1 l2 l3 l4 l5 l6 M) (y_PI 1125899906842624 M (-2147483648) (2147483647))) (H : y_HT M) (h_l1 : 0 ≤ l1.toInt ∧ l1.toInt ≤ 6) (h_l2 : 0 ≤ l2.toInt ∧ l2.toInt ≤ 6) (h_l3 : 0 ≤ l3.toInt ∧ l3.toInt ≤ 6) (h_l5 : 0 ≤ l5.toInt ∧ l5.toInt ≤ 3) (h_l6 : 0 ≤ l6.toInt ∧ l6.toInt ≤ 7) (hm9 : 7 - l6.toInt ≤ m9) : Ok (F_X12_goesOn_b9 k9 (some 175) l1 l2 l3 l4 l5 l6 M) (y_PI 1125899906842624 M (-2147483648) (2147483647)) := by
  delta F_X12_goesOn_b9
  refine y_gR (w := 185) H rfl (by decide) ?_
  refine y_aIr (lo := 0) (hi := 7) H (i := 185) (n := 157) rfl (by decide) (by decide) (by decide) rfl (fun v2 q_v2 e_v2 => ?_)
  refine Ok_i (fun c_1 => ?_) (fun c_1 => ?_)
  · skip
    replace c_1 := i_le c_1
    exact v_PI (S1 := 1125899906842624) (y_rf0 _ _) (S_X12_goesOn_b90  H) (by decide) (by decide) (by decide)
  · skip
    replace c_1 := i_nle c_1
    refine Ok_i (fun c_2 => ?_) (fun c_2 => ?_)
    · skip
      replace c_2 := i_le c_2
      rw [L2_3] at c_2
      exact v_PI (S1 := 1125899906842624) (y_rf0 _ _) (S_X12_goesOn_b90  H) (by decide) (by decide) (by decide)
    · skip
      replace c_2 := i_nle c_2
      rw [L2_3] at c_2
      refine Ok_i (fun c_3 => ?_) (fun c_3 => ?_)
      · skip
        replace c_3 := i_eq c_3
        exact v_PI (S1 := 1125899906842624) (y_rf0 _ _) (S_X12_goesOn_b84 hk9 H h_l1 h_l2 h_l3 h_l5 (by omega) (by omega)) (by decide) (by decide) (by decide)
      · skip
        replace c_3 := i_ne c_3
        refine y_gR (w := 185) H rfl (by decide) ?_
        have a_4 := i_cadd (c := (52 : Int32)) (x := l1) L2_52 (by omega) (by omega)
        refine y_aI H (i := 185) (n := 157) rfl (by decide) (by omega) (by omega) (fun v4 q_v4 => ?_)
        refine Ok_b (S_X12_isOf H) (fun v5 e_v5 => ?_)
        replace e_v5 := q_un e_v5
        refine Ok_i (fun c_5 => ?_) (fun c_5 => ?_)
        · skip
          replace c_5 := i_eq c_5
          rw [L2_0] at c_5
          exact v_PI (S1 := 1125899906842624) (y_rf0 _ _) (S_X12_goesOn_b84 hk9 H h_l1 h_l2 h_l3 h_l5 (by omega) (by omega)) (by decide) (by decide) (by decide)
        · skip
          replace c_5 := i_ne c_5
          rw [L2_0] at c_5
          refine y_gO H ?_
          refine Ok_b (S_X12_strengthOf H h_l1 h_l3) (fun v7 e_v7 => ?_)
          clear e_v7
          refine Ok_b (S_X12_takes H h_l1 (by omega) h_l3) (fun yM9 zM9 => ?_)
          obtain ⟨v8, M9⟩ := yM9
          obtain ⟨e_v8, HM9, fM9⟩ := zM9
          try dsimp only at e_v8 HM9 fM9
          refine Ok_i (fun c_6 => ?_) (fun c_6 => ?_)
          · skip
            replace c_6 := i_eq c_6
            rw [L2_0] at c_6
            have a_7 := i_addc (x := l5) (c := 1) L2_1 (by omega) (by omega)
            exact v_PI (S1 := 1125899906842624) fM9 (S_X12_goesOn_b81 hk9 HM9 h_l1 h_l2 h_l3 (by omega) (by omega) (by decide) (by omega)) (by decide) (by decide) (by decide)
          · skip
            replace c_6 := i_ne c_6
            rw [L2_0] at c_6
            have a_8 := i_addc (x := l5) (c := 1) L2_1 (by omega) (by omega)
            exact v_PI (S1 := 1125899906842624) fM9 (S_X12_goesOn_b81 hk9 HM9 h_l1 h_l2 h_l3 (by omega) (by omega) (by decide) (by omega)) (by decide) (by decide) (by decide)
theorem S_X12_goesOn_L9 : ∀ (n : Nat) {l1 : Int32} {l2 : Int32} {l3 : Int32} {l4 : Int32} {l5 : Int32} {l6 : Int32} {M : gM}, y_HT M → (0 ≤ l1.toInt ∧ l1.toInt ≤ 6) → (0 ≤ l2.toInt ∧ l2.toInt ≤ 6) → (0 ≤ l3.toInt ∧ l3.toInt ≤ 6) → (0 ≤ l5.toInt ∧ l5.toInt ≤ 3) → (0 ≤ l6.toInt ∧ l6.toInt ≤ 7) → 7 - l6.toInt < (n : Int) → Ok (F_X12_goesOn_L9 n (some 175) l1 l2 l3 l4 l5 l6 M) (y_PI 1125899906842624 M (-2147483648) (2147483647)) := by
  intro n
  induction n with
  | zero =>
    intro l1 l2 l3 l4 l5 l6 M H h_l1 h_l2 h_l3 h_l5 h_l6  hm
    exfalso
    omega
  | succ n ih =>
    intro l1 l2 l3 l4 l5 l6 M H h_l1 h_l2 h_l3 h_l5 h_l6  hm
    exact S_X12_goesOn_b9 (m9 := 7 - l6.toInt) (fun H h_l1 h_l2 h_l3 h_l5 h_l6  hmz => ih H h_l1 h_l2 h_l3 h_l5 h_l6  (by omega)) H h_l1 h_l2 h_l3 h_l5 h_l6  (Int.le_refl _)
theorem S_X12_goesOn_b0 {l1 : Int32} {l2 : Int32} {l3 : Int32} {M : gM} (H : y_HT M) (h_l1 : 0 ≤ l1.toInt ∧ l1.toInt ≤ 6) (h_l2 : 0 ≤ l2.toInt ∧ l2.toInt ≤ 6) (h_l3 : 0 ≤ l3.toInt ∧ l3.toInt ≤ 6) : Ok (F_X12_goesOn_b0 (some 175) l1 l2 l3 M) (y_PI 1125899906842624 M (-2147483648) (2147483647)) := by
  delta F_X12_goesOn_b0
  exact v_PI (S1 := 1125899906842624) (y_rf0 _ _) (S_X12_goesOn_L9  g_fuel H h_l1 h_l2 h_l3 (by decide) (by decide) (q_fu (by rw [L2_0]; omega))) (by decide) (by decide) (by decide)
theorem S_X12_goesOn {l1 : Int32} {l2 : Int32} {l3 : Int32} {M : gM} (H : y_HT M) (h_l1 : 0 ≤ l1.toInt ∧ l1.toInt ≤ 6) (h_l2 : 0 ≤ l2.toInt ∧ l2.toInt ≤ 6) (h_l3 : 0 ≤ l3.toInt ∧ l3.toInt ≤ 6) : Ok (F_X12_goesOn (some 175) l1 l2 l3 M) (y_PI 1125899906842624 M (-2147483648) (2147483647)) := by
  delta F_X12_goesOn
  exact v_PI (S1 := 1125899906842624) (y_rf0 _ _) (S_X12_goesOn_b0  H h_l1 h_l2 h_l3) (by decide) (by decide) (by decide)
theorem S_X12_tell_b49  {M : gM} (H : y_HT M) : Ok (F_X12_tell_b49 M) (y_PI 5629499567767552 M (-2147483648) (2147483647)) := by
  delta F_X12_tell_b49
  exact z_PI (i_rng _) H (y_rf0 _ _)
theorem S_X12_tell_b121 {s0 : Int32} {s1 : Int32} {M : gM} (H : y_HT M) (h_s0 : 1 ≤ s0.toInt ∧ s0.toInt ≤ 1) : Ok (F_X12_tell_b121 s0 s1 M) (y_PI 5629499567767552 M (-2147483648) (2147483647)) := by
  delta F_X12_tell_b121
  exact z_PI (i_rng _) H (y_rf0 _ _)
theorem S_X12_tell_b120 {s0 : Int32} {M : gM} (H : y_HT M) (h_s0 : 1 ≤ s0.toInt ∧ s0.toInt ≤ 1) : Ok (F_X12_tell_b120 s0 M) (y_PI 5629499567767552 M (-2147483648) (2147483647)) := by
  delta F_X12_tell_b120
  exact v_PI (S1 := 5629499567767552) (y_rf0 _ _) (S_X12_tell_b121  H h_s0) (by decide) (by decide) (by decide)
set_option maxHeartbeats 1000000 in
theorem S_X12_tell_b81 {l1 : Int32} {l2 : Int32} {l3 : Int32} {l4 : Int32} {s1 : Int32} {s2 : Int32} {s3 : Int32} {s4 : Int32} {M : gM} (H : y_HT M) (h_l1 : 0 ≤ l1.toInt ∧ l1.toInt ≤ 6) (h_l2 : 0 ≤ l2.toInt ∧ l2.toInt ≤ 6) (h_l3 : 0 ≤ l3.toInt ∧ l3.toInt ≤ 6) (h_s1 : 0 ≤ s1.toInt ∧ s1.toInt ≤ 6) (h_s2 : 0 ≤ s2.toInt ∧ s2.toInt ≤ 6) (h_s3 : 0 ≤ s3.toInt ∧ s3.toInt ≤ 6) : Ok (F_X12_tell_b81 (some 175) l1 l2 l3 l4 (some 175) s1 s2 s3 s4 M) (y_PI 5629499567767552 M (-2147483648) (2147483647)) := by
  delta F_X12_tell_b81
  refine y_gO H ?_
  refine Ok_b (S_X12_takes H h_s1 h_s2 h_s3) (fun yM3 zM3 => ?_)
  obtain ⟨v2, M3⟩ := yM3
  obtain ⟨e_v2, HM3, fM3⟩ := zM3
  try dsimp only at e_v2 HM3 fM3
  refine Ok_i (fun c_1 => ?_) (fun c_1 => ?_)
  · skip
    replace c_1 := i_eq c_1
    rw [L2_0] at c_1
    exact z_PI (i_rng _) HM3 (y_fl (S2 := 5629499567767552) (by decide) fM3)
  · skip
    replace c_1 := i_ne c_1
    rw [L2_0] at c_1
    refine Ok_i (fun c_2 => ?_) (fun c_2 => ?_)
    · skip
      replace c_2 := i_eq c_2
      rw [L2_0] at c_2
      exact v_PI (S1 := 5629499567767552) (y_fl (S2 := 5629499567767552) (by decide) fM3) (S_X12_tell_b120  HM3 (by decide)) (by decide) (by decide) (by decide)
    · skip
      replace c_2 := i_ne c_2
      rw [L2_0] at c_2
      refine y_gO HM3 ?_
      refine Ok_b (S_X12_valueOf HM3 h_l1 h_l3) (fun v5 e_v5 => ?_)
      clear e_v5
      refine Ok_b (S_X12_thingOf HM3 h_l3 (by decide)) (fun v6 e_v6 => ?_)
      clear e_v6
      refine Ok_i (fun c_3 => ?_) (fun c_3 => ?_)
      · skip
        replace c_3 := i_eq c_3
        exact v_PI (S1 := 5629499567767552) (y_fl (S2 := 5629499567767552) (by decide) fM3) (S_X12_tell_b120  HM3 (by decide)) (by decide) (by decide) (by decide)
      · skip
        replace c_3 := i_ne c_3
        refine Ok_b (S_X12_goesOn HM3 h_l2 h_l1 h_l3) (fun yM8 zM8 => ?_)
        obtain ⟨v7, M8⟩ := yM8
        obtain ⟨e_v7, HM8, fM8⟩ := zM8
        try dsimp only at e_v7 HM8 fM8
        have g_4 := y_tr (y_fl (S2 := 5629499567767552) (by decide) fM3) (y_fl (S2 := 5629499567767552) (by decide) fM8)
        exact v_PI (S1 := 5629499567767552) g_4 (S_X12_tell_b121  HM8 (by decide)) (by decide) (by decide) (by decide)
set_option maxHeartbeats 1000000 in
theorem S_X12_tell_b0 {l1 : Int32} {l2 : Int32} {l3 : Int32} {l4 : Int32} {M : gM} (H : y_HT M) : Ok (F_X12_tell_b0 (some 175) l1 l2 l3 l4 M) (y_PI 5629499567767552 M (-2147483648) (2147483647)) := by
  delta F_X12_tell_b0
  refine y_gO H ?_
  refine Ok_b (S_X12_isHeir H) (fun v2 e_v2 => ?_)
  obtain ⟨e_v2, w_v2⟩ := e_v2
  refine Ok_i (fun c_1 => ?_) (fun c_1 => ?_)
  · skip
    replace c_1 := i_eq c_1
    rw [L2_0] at c_1
    exact v_PI (S1 := 5629499567767552) (y_rf0 _ _) (S_X12_tell_b49  H) (by decide) (by decide) (by decide)
  · skip
    replace c_1 := i_ne c_1
    rw [L2_0] at c_1
    have x_v2 := w_v2 (by omega)
    refine Ok_b (S_X12_isHeir H) (fun v3 e_v3 => ?_)
    obtain ⟨e_v3, w_v3⟩ := e_v3
    refine Ok_i (fun c_2 => ?_) (fun c_2 => ?_)
    · skip
      replace c_2 := i_eq c_2
      rw [L2_0] at c_2
      exact v_PI (S1 := 5629499567767552) (y_rf0 _ _) (S_X12_tell_b49  H) (by decide) (by decide) (by decide)
    · skip
      replace c_2 := i_ne c_2
      rw [L2_0] at c_2
      have x_v3 := w_v3 (by omega)
      refine Ok_b (S_X12_isThing H) (fun v4 e_v4 => ?_)
      obtain ⟨e_v4, w_v4⟩ := e_v4
      refine Ok_i (fun c_3 => ?_) (fun c_3 => ?_)
      · skip
        replace c_3 := i_eq c_3
        rw [L2_0] at c_3
        exact v_PI (S1 := 5629499567767552) (y_rf0 _ _) (S_X12_tell_b49  H) (by decide) (by decide) (by decide)
      · skip
        replace c_3 := i_ne c_3
        rw [L2_0] at c_3
        have x_v4 := w_v4 (by omega)
        refine y_gR (w := 185) H rfl (by decide) ?_
        have a_4 := i_cadd (c := (52 : Int32)) (x := l1) L2_52 (by omega) (by omega)
        refine y_aI H (i := 185) (n := 157) rfl (by decide) (by omega) (by omega) (fun v6 q_v6 => ?_)
        refine Ok_b (S_X12_isOf H) (fun v7 e_v7 => ?_)
        replace e_v7 := q_un e_v7
        refine Ok_i (fun c_5 => ?_) (fun c_5 => ?_)
        · skip
          replace c_5 := i_eq c_5
          rw [L2_0] at c_5
          exact v_PI (S1 := 5629499567767552) (y_rf0 _ _) (S_X12_tell_b49  H) (by decide) (by decide) (by decide)
        · skip
          replace c_5 := i_ne c_5
          rw [L2_0] at c_5
          refine Ok_b (S_X12_knowsOf H (by omega) (by omega)) (fun v8 e_v8 => ?_)
          replace e_v8 := q_un e_v8
          refine Ok_i (fun c_6 => ?_) (fun c_6 => ?_)
          · skip
            replace c_6 := i_eq c_6
            rw [L2_0] at c_6
            exact v_PI (S1 := 5629499567767552) (y_rf0 _ _) (S_X12_tell_b49  H) (by decide) (by decide) (by decide)
          · skip
            replace c_6 := i_ne c_6
            rw [L2_0] at c_6
            refine Ok_b (S_X12_keepsAct H) (fun M9 zM9 => ?_)
            obtain ⟨HM9, fM9⟩ := zM9
            refine Ok_i (fun c_7 => ?_) (fun c_7 => ?_)
            · skip
              replace c_7 := i_eq c_7
              rw [L2_0] at c_7
              refine y_gC HM9 ?_
              refine Ok_b (S_X12_strengthOf HM9 (by omega) (by omega)) (fun v11 e_v11 => ?_)
              clear e_v11
              exact v_PI (S1 := 5629499567767552) (y_fl (S2 := 5629499567767552) (by decide) fM9) (S_X12_tell_b81  HM9 (by omega) (by omega) (by omega) (by omega) (by omega) (by omega)) (by decide) (by decide) (by decide)
            · skip
              replace c_7 := i_ne c_7
              rw [L2_0] at c_7
              refine y_gC HM9 ?_
              refine Ok_b (S_X12_strengthOf HM9 (by omega) (by omega)) (fun v13 e_v13 => ?_)
              clear e_v13
              exact v_PI (S1 := 5629499567767552) (y_fl (S2 := 5629499567767552) (by decide) fM9) (S_X12_tell_b81  HM9 (by omega) (by omega) (by omega) (by omega) (by omega) (by omega)) (by decide) (by decide) (by decide)
theorem S_X12_tell {l1 : Int32} {l2 : Int32} {l3 : Int32} {l4 : Int32} {M : gM} (H : y_HT M) : Ok (F_X12_tell (some 175) l1 l2 l3 l4 M) (y_PI 5629499567767552 M (-2147483648) (2147483647)) := by
  delta F_X12_tell
  exact v_PI (S1 := 5629499567767552) (y_rf0 _ _) (S_X12_tell_b0  H) (by decide) (by decide) (by decide)
theorem S_X12_prompt_b25  {M : gM} (H : y_HT M) : Ok (F_X12_prompt_b25 M) (y_PI 5629499567767552 M (-2147483648) (2147483647)) := by
  delta F_X12_prompt_b25
  exact z_PI (i_rng _) H (y_rf0 _ _)
theorem S_X12_prompt_b62 {l1 : Int32} {l2 : Int32} {s1 : Int32} {s2 : Int32} {s3 : Int32} {s4 : Int32} {M : gM} (H : y_HT M) (h_l1 : 0 ≤ l1.toInt ∧ l1.toInt ≤ 6) (h_l2 : 0 ≤ l2.toInt ∧ l2.toInt ≤ 6) (h_s1 : 0 ≤ s1.toInt ∧ s1.toInt ≤ 6) (h_s2 : 0 ≤ s2.toInt ∧ s2.toInt ≤ 6) (h_s4 : s4.toInt ≤ 99) : Ok (F_X12_prompt_b62 (some 175) l1 l2 (some 175) s1 s2 s3 s4 M) (y_PI 5629499567767552 M (-2147483648) (2147483647)) := by
  delta F_X12_prompt_b62
  refine y_gO H ?_
  refine Ok_b (S_X12_knowsNow H h_s1 h_s2) (fun M2 zM2 => ?_)
  obtain ⟨HM2, fM2⟩ := zM2
  refine y_gO HM2 ?_
  refine Ok_b (S_X12_strengthOf HM2 h_l1 h_l2) (fun v4 e_v4 => ?_)
  clear e_v4
  exact z_PI (i_rng _) HM2 (y_fl (S2 := 5629499567767552) (by decide) fM2)
set_option maxHeartbeats 1000000 in
theorem S_X12_prompt_b0 {l1 : Int32} {l2 : Int32} {M : gM} (H : y_HT M) : Ok (F_X12_prompt_b0 (some 175) l1 l2 M) (y_PI 5629499567767552 M (-2147483648) (2147483647)) := by
  delta F_X12_prompt_b0
  refine y_gO H ?_
  refine Ok_b (S_X12_isHeir H) (fun v2 e_v2 => ?_)
  obtain ⟨e_v2, w_v2⟩ := e_v2
  refine Ok_i (fun c_1 => ?_) (fun c_1 => ?_)
  · skip
    replace c_1 := i_eq c_1
    rw [L2_0] at c_1
    exact v_PI (S1 := 5629499567767552) (y_rf0 _ _) (S_X12_prompt_b25  H) (by decide) (by decide) (by decide)
  · skip
    replace c_1 := i_ne c_1
    rw [L2_0] at c_1
    have x_v2 := w_v2 (by omega)
    refine Ok_b (S_X12_isThing H) (fun v3 e_v3 => ?_)
    obtain ⟨e_v3, w_v3⟩ := e_v3
    refine Ok_i (fun c_2 => ?_) (fun c_2 => ?_)
    · skip
      replace c_2 := i_eq c_2
      rw [L2_0] at c_2
      exact v_PI (S1 := 5629499567767552) (y_rf0 _ _) (S_X12_prompt_b25  H) (by decide) (by decide) (by decide)
    · skip
      replace c_2 := i_ne c_2
      rw [L2_0] at c_2
      have x_v3 := w_v3 (by omega)
      refine Ok_b (S_X12_knowsOf H (by omega) (by omega)) (fun v4 e_v4 => ?_)
      replace e_v4 := q_un e_v4
      refine Ok_i (fun c_3 => ?_) (fun c_3 => ?_)
      · skip
        replace c_3 := i_eq c_3
        rw [L2_0] at c_3
        exact v_PI (S1 := 5629499567767552) (y_rf0 _ _) (S_X12_prompt_b25  H) (by decide) (by decide) (by decide)
      · skip
        replace c_3 := i_ne c_3
        rw [L2_0] at c_3
        refine Ok_b (S_X12_keepsAct H) (fun M5 zM5 => ?_)
        obtain ⟨HM5, fM5⟩ := zM5
        refine y_gC HM5 ?_
        refine Ok_b (S_X12_strengthOf HM5 (by omega) (by omega)) (fun v7 e_v7 => ?_)
        clear e_v7
        refine Ok_b (S_X12_valueOf HM5 (by omega) (by omega)) (fun v8 e_v8 => ?_)
        clear e_v8
        refine Ok_i (fun c_4 => ?_) (fun c_4 => ?_)
        · skip
          replace c_4 := i_le c_4
          rw [L2_99] at c_4
          exact v_PI (S1 := 5629499567767552) (y_fl (S2 := 5629499567767552) (by decide) fM5) (S_X12_prompt_b62  HM5 (by omega) (by omega) (by omega) (by omega) (by omega)) (by decide) (by decide) (by decide)
        · skip
          replace c_4 := i_nle c_4
          rw [L2_99] at c_4
          exact v_PI (S1 := 5629499567767552) (y_fl (S2 := 5629499567767552) (by decide) fM5) (S_X12_prompt_b62  HM5 (by omega) (by omega) (by omega) (by omega) (by decide)) (by decide) (by decide) (by decide)
theorem S_X12_prompt {l1 : Int32} {l2 : Int32} {M : gM} (H : y_HT M) : Ok (F_X12_prompt (some 175) l1 l2 M) (y_PI 5629499567767552 M (-2147483648) (2147483647)) := by
  delta F_X12_prompt
  exact v_PI (S1 := 5629499567767552) (y_rf0 _ _) (S_X12_prompt_b0  H) (by decide) (by decide) (by decide)
theorem S_X12_asks_b29 {l3 : Int32} {M : gM} (H : y_HT M) : Ok (F_X12_asks_b29 l3 M) (y_PI 1125899906842624 M (-2147483648) (2147483647)) := by
  delta F_X12_asks_b29
  refine Ok_i (fun c_1 => ?_) (fun c_1 => ?_)
  · skip
    replace c_1 := i_le c_1
    rw [L2_0] at c_1
    exact z_PI (i_rng _) H (y_rf0 _ _)
  · skip
    replace c_1 := i_nle c_1
    rw [L2_0] at c_1
    exact z_PI (i_rng _) H (y_rf0 _ _)
set_option maxHeartbeats 1000000 in
theorem S_X12_asks_b0 {l1 : Int32} {l2 : Int32} {M : gM} (H : y_HT M) (h_l1 : 0 ≤ l1.toInt ∧ l1.toInt ≤ 6) (h_l2 : 0 ≤ l2.toInt ∧ l2.toInt ≤ 6) : Ok (F_X12_asks_b0 (some 175) l1 l2 M) (y_PI 1125899906842624 M (-2147483648) (2147483647)) := by
  delta F_X12_asks_b0
  refine y_gO H ?_
  refine Ok_b (S_X12_valueOf H h_l1 h_l2) (fun v2 e_v2 => ?_)
  clear e_v2
  refine Ok_i (fun c_1 => ?_) (fun c_1 => ?_)
  · skip
    replace c_1 := i_lt c_1
    rw [L2_0] at c_1
    exact v_PI (S1 := 1125899906842624) (y_rf0 _ _) (S_X12_asks_b29  H) (by decide) (by decide) (by decide)
  · skip
    replace c_1 := i_nlt c_1
    rw [L2_0] at c_1
    refine Ok_b (S_X12_thingOf H h_l2 (by decide)) (fun v3 e_v3 => ?_)
    clear e_v3
    refine Ok_i (fun c_2 => ?_) (fun c_2 => ?_)
    · skip
      replace c_2 := i_eq c_2
      exact v_PI (S1 := 1125899906842624) (y_rf0 _ _) (S_X12_asks_b29  H) (by decide) (by decide) (by decide)
    · skip
      replace c_2 := i_ne c_2
      refine Ok_b (S_X12_knowsNow H h_l1 h_l2) (fun M4 zM4 => ?_)
      obtain ⟨HM4, fM4⟩ := zM4
      exact v_PI (S1 := 1125899906842624) fM4 (S_X12_asks_b29  HM4) (by decide) (by decide) (by decide)
theorem S_X12_asks {l1 : Int32} {l2 : Int32} {M : gM} (H : y_HT M) (h_l1 : 0 ≤ l1.toInt ∧ l1.toInt ≤ 6) (h_l2 : 0 ≤ l2.toInt ∧ l2.toInt ≤ 6) : Ok (F_X12_asks (some 175) l1 l2 M) (y_PI 1125899906842624 M (-2147483648) (2147483647)) := by
  delta F_X12_asks
  exact v_PI (S1 := 1125899906842624) (y_rf0 _ _) (S_X12_asks_b0  H h_l1 h_l2) (by decide) (by decide) (by decide)
theorem S_X12_ask_b25  {M : gM} (H : y_HT M) : Ok (F_X12_ask_b25 M) (y_PI 5629499567767552 M (-2147483648) (2147483647)) := by
  delta F_X12_ask_b25
  exact z_PI (i_rng _) H (y_rf0 _ _)
set_option maxHeartbeats 1000000 in
theorem S_X12_ask_b0 {l1 : Int32} {l2 : Int32} {M : gM} (H : y_HT M) : Ok (F_X12_ask_b0 (some 175) l1 l2 M) (y_PI 5629499567767552 M (-2147483648) (2147483647)) := by
  delta F_X12_ask_b0
  refine y_gO H ?_
  refine Ok_b (S_X12_isHeir H) (fun v2 e_v2 => ?_)
  obtain ⟨e_v2, w_v2⟩ := e_v2
  refine Ok_i (fun c_1 => ?_) (fun c_1 => ?_)
  · skip
    replace c_1 := i_eq c_1
    rw [L2_0] at c_1
    exact v_PI (S1 := 5629499567767552) (y_rf0 _ _) (S_X12_ask_b25  H) (by decide) (by decide) (by decide)
  · skip
    replace c_1 := i_ne c_1
    rw [L2_0] at c_1
    have x_v2 := w_v2 (by omega)
    refine Ok_b (S_X12_isThing H) (fun v3 e_v3 => ?_)
    obtain ⟨e_v3, w_v3⟩ := e_v3
    refine Ok_i (fun c_2 => ?_) (fun c_2 => ?_)
    · skip
      replace c_2 := i_eq c_2
      rw [L2_0] at c_2
      exact v_PI (S1 := 5629499567767552) (y_rf0 _ _) (S_X12_ask_b25  H) (by decide) (by decide) (by decide)
    · skip
      replace c_2 := i_ne c_2
      rw [L2_0] at c_2
      have x_v3 := w_v3 (by omega)
      refine y_gR (w := 185) H rfl (by decide) ?_
      refine y_aI H (i := 185) (n := 157) rfl (by decide) (by decide) (by decide) (fun v5 q_v5 => ?_)
      refine Ok_i (fun c_3 => ?_) (fun c_3 => ?_)
      · skip
        replace c_3 := i_eq c_3
        rw [L2_0] at c_3
        exact v_PI (S1 := 5629499567767552) (y_rf0 _ _) (S_X12_ask_b25  H) (by decide) (by decide) (by decide)
      · skip
        replace c_3 := i_ne c_3
        rw [L2_0] at c_3
        refine Ok_b (S_X12_keepsAct H) (fun M6 zM6 => ?_)
        obtain ⟨HM6, fM6⟩ := zM6
        refine y_gR (w := 185) HM6 rfl (by decide) ?_
        refine y_aI2 HM6 (i := 185) (n := 157) rfl (by decide) (by decide) (by decide) ((y_fa fM6 (by decide) (by decide) _).trans q_v5) (fun v8 e_v8 => ?_)
        have t_v8 := congrArg Int32.toInt e_v8
        have q_v8 := ((y_fa fM6 (by decide) (by decide) _).trans q_v5).trans e_v8.symm
        refine y_sI (S := 5629499567767552) HM6 (i := 185) (n := 157) rfl (by decide) (by decide) (y_full rfl) (by decide) (fun M9 HM9 fM9 q_M9 o_M9 l_M9 => ?_)
        have g_4 := y_tr (y_fl (S2 := 5629499567767552) (by decide) fM6) fM9
        refine y_gC HM9 ?_
        refine Ok_b (S_X12_asks HM9 (by omega) (by omega)) (fun yM12 zM12 => ?_)
        obtain ⟨v11, M12⟩ := yM12
        obtain ⟨e_v11, HM12, fM12⟩ := zM12
        try dsimp only at e_v11 HM12 fM12
        have g_5 := y_tr g_4 (y_fl (S2 := 5629499567767552) (by decide) fM12)
        exact z_PI (i_rng _) HM12 g_5
theorem S_X12_ask {l1 : Int32} {l2 : Int32} {M : gM} (H : y_HT M) : Ok (F_X12_ask (some 175) l1 l2 M) (y_PI 5629499567767552 M (-2147483648) (2147483647)) := by
  delta F_X12_ask
  exact v_PI (S1 := 5629499567767552) (y_rf0 _ _) (S_X12_ask_b0  H) (by decide) (by decide) (by decide)
theorem S_X12_burn_b22  {M : gM} (H : y_HT M) : Ok (F_X12_burn_b22 M) (y_PI 5629499567767552 M (0) (1)) := by
  delta F_X12_burn_b22
  exact z_PI (by decide) H (y_rf0 _ _)
set_option maxHeartbeats 1000000 in
theorem S_X12_burn_b0 {l1 : Int32} {M : gM} (H : y_HT M) : Ok (F_X12_burn_b0 (some 175) l1 M) (y_PI 5629499567767552 M (0) (1)) := by
  delta F_X12_burn_b0
  refine y_gO H ?_
  refine Ok_b (S_X12_isThing H) (fun v2 e_v2 => ?_)
  obtain ⟨e_v2, w_v2⟩ := e_v2
  refine Ok_i (fun c_1 => ?_) (fun c_1 => ?_)
  · skip
    replace c_1 := i_eq c_1
    rw [L2_0] at c_1
    exact v_PI (S1 := 5629499567767552) (y_rf0 _ _) (S_X12_burn_b22  H) (by decide) (by decide) (by decide)
  · skip
    replace c_1 := i_ne c_1
    rw [L2_0] at c_1
    have x_v2 := w_v2 (by omega)
    refine y_gR (w := 185) H rfl (by decide) ?_
    refine y_aI H (i := 185) (n := 157) rfl (by decide) (by decide) (by decide) (fun v4 q_v4 => ?_)
    refine Ok_b (S_X12_isOf H) (fun v5 e_v5 => ?_)
    replace e_v5 := q_un e_v5
    refine Ok_i (fun c_2 => ?_) (fun c_2 => ?_)
    · skip
      replace c_2 := i_eq c_2
      rw [L2_0] at c_2
      refine Ok_b (S_X12_keepsAct H) (fun M6 zM6 => ?_)
      obtain ⟨HM6, fM6⟩ := zM6
      refine y_gR (w := 185) HM6 rfl (by decide) ?_
      refine y_aI2 HM6 (i := 185) (n := 157) rfl (by decide) (by decide) (by decide) ((y_fa fM6 (by decide) (by decide) _).trans q_v4) (fun v8 e_v8 => ?_)
      have t_v8 := congrArg Int32.toInt e_v8
      have q_v8 := ((y_fa fM6 (by decide) (by decide) _).trans q_v4).trans e_v8.symm
      refine y_sI (S := 5629499567767552) HM6 (i := 185) (n := 157) rfl (by decide) (by decide) (y_full rfl) (by decide) (fun M9 HM9 fM9 q_M9 o_M9 l_M9 => ?_)
      have g_3 := y_tr (y_fl (S2 := 5629499567767552) (by decide) fM6) fM9
      exact z_PI (by decide) HM9 g_3
    · skip
      replace c_2 := i_ne c_2
      rw [L2_0] at c_2
      exact v_PI (S1 := 5629499567767552) (y_rf0 _ _) (S_X12_burn_b22  H) (by decide) (by decide) (by decide)
theorem S_X12_burn {l1 : Int32} {M : gM} (H : y_HT M) : Ok (F_X12_burn (some 175) l1 M) (y_PI 5629499567767552 M (0) (1)) := by
  delta F_X12_burn
  exact v_PI (S1 := 5629499567767552) (y_rf0 _ _) (S_X12_burn_b0  H) (by decide) (by decide) (by decide)
theorem S_X12_undo_L21 : ∀ (n : Nat) {l1 : Int32} {M : gM}, y_HT M → (M.2.1 175 25).toInt ≤ 19 → (0 ≤ l1.toInt ∧ l1.toInt ≤ 157) → 157 - l1.toInt < (n : Int) → Ok (F_X12_undo_L21 n (some 175) l1 M) (y_PI 1125899940397056 M (-2147483648) 2147483647) := by
  intro n
  induction n with
  | zero =>
    intro l1 M H hu h hm
    exfalso
    omega
  | succ n ih =>
    intro l1 M H hu h hm
    show Ok (F_X12_undo_b21 (F_X12_undo_L21 n) (some 175) l1 M) _
    delta F_X12_undo_b21
    refine Ok_i (fun c => ?_) (fun c => ?_)
    · refine y_gI (lo := 0) (hi := 20) H rfl (fun v1 q1 e1 => ?_)
      exact z_PI (i_rng _) H (y_rf0 _ _)
    · replace c := i_nle c
      rw [L2_157] at c
      have a := i_addc (x := l1) (c := (1 : Int32)) L2_1 (by omega) (by omega)
      refine y_gR (w := 185) H rfl (by decide) ?_
      refine y_gR (w := 187) H rfl (by decide) ?_
      refine y_gI (lo := 0) (hi := 20) H rfl (fun v4 q4 e4 => ?_)
      have hu4 := hu
      rw [q4] at hu4
      have a1 := i_mulL (c := (157 : Int32)) (x := v4) (n := 157) rfl (by omega) (by omega)
      have a2 := i_add (x := (157 : Int32) * v4) (y := l1) (by omega) (by omega)
      refine y_aI H (i := 187) (n := 3140) rfl (by decide) (by omega) (by omega) (fun v6 q6 => ?_)
      refine y_sI (S := 1125899940397056) H (i := 185) (n := 157) rfl (by omega) (by omega) (y_mv H (by decide) q6 (y_md (u := v4.toInt) (by omega) (by omega) (by omega)).symm) (by decide) (fun M4 H4 f4 q4 o4 l4 => ?_)
      exact v_PI (S1 := 1125899940397056) f4 (ih H4 (by rw [o4 _ _ (Or.inl (by decide))]; exact hu) (by omega) (by omega)) (by decide) (by decide) (by decide)
theorem S_X12_undo {M : gM} (H : y_HT M) : Ok (F_X12_undo (some 175) M) (y_PI 1125899940397056 M (-2147483648) 2147483647) := by
  delta F_X12_undo F_X12_undo_b0
  refine y_gI (lo := 0) (hi := 20) H rfl (fun v1 q1 e1 => ?_)
  refine Ok_i (fun c => ?_) (fun c => ?_)
  · exact z_PI (i_rng _) H (y_rf0 _ _)
  · replace c := i_ne c
    rw [L2_0] at c
    refine y_gIs H q1 ?_
    have a := i_subc (x := v1) (c := (1 : Int32)) L2_1 (by omega) (by omega)
    refine y_pI (S := 1125899940397056) (lo := 0) (hi := 20) H rfl (by omega) (by decide) (fun M2 H2 f2 q2 o2 l2 => ?_)
    exact v_PI (S1 := 1125899940397056) f2 (S_X12_undo_L21 g_fuel H2 (by rw [q2]; omega) (by decide) (by decide)) (by decide) (by decide) (by decide)
theorem S_X12_keeps_L2 : ∀ (n : Nat) {l1 : Int32} {M : gM}, y_HT M → (0 ≤ l1.toInt ∧ l1.toInt ≤ 157) → 157 - l1.toInt < (n : Int) → Ok (F_X12_keeps_L2 n (some 175) l1 M) (fun M' => y_PV 9007199254740992 M M' ∧ (∀ j : Nat, l1.toInt ≤ (j : Int) → j < 157 → M'.2.1 188 j = M.2.1 185 j) ∧ ∀ j : Nat, (j : Int) < l1.toInt → M'.2.1 188 j = M.2.1 188 j) := by
  intro n
  induction n with
  | zero =>
    intro l1 M H h hm
    exfalso
    omega
  | succ n ih =>
    intro l1 M H h hm
    show Ok (F_X12_keeps_b2 (F_X12_keeps_L2 n) (some 175) l1 M) _
    delta F_X12_keeps_b2
    refine Ok_i (fun c => ?_) (fun c => ?_)
    · replace c := i_le c
      rw [L2_157] at c
      exact Ok_s ⟨⟨H, y_rf0 _ _⟩, fun j h1 h2 => by omega, fun _ _ => rfl⟩
    · replace c := i_nle c
      rw [L2_157] at c
      have a := i_addc (x := l1) (c := (1 : Int32)) L2_1 (by omega) (by omega)
      have e1 := i_clamp (x := l1) (by omega)
      refine y_gR (w := 188) H rfl (by decide) ?_
      refine y_gR (w := 185) H rfl (by decide) ?_
      refine y_aI H (i := 185) (n := 157) rfl (by decide) (by omega) (by omega) (fun v3 q3 => ?_)
      refine y_sI (S := 9007199254740992) H (i := 188) (n := 157) rfl (by omega) (by omega) (y_mv H (by decide) q3 rfl) (by decide) (fun M4 H4 f4 q4 o4 l4 => ?_)
      refine Ok_w (ih H4 (by omega) (by omega)) (fun M' z => ⟨⟨z.1.1, y_tr f4 z.1.2⟩, fun j h1 h2 => ?_, fun j h1 => ?_⟩)
      rotate_left
      · rw [z.2.2 j (by omega)]
        exact o4 _ _ (Or.inr (by omega))
      have hs : M4.2.1 185 j = M.2.1 185 j := o4 _ _ (Or.inl (by decide))
      by_cases e : j = l1.toNatClampNeg
      · rw [z.2.2 j (by omega), e, q4, q3]
      · rw [z.2.1 j (by omega) h2, hs]
theorem S_X12_keeps2 {M : gM} (H : y_HT M) : Ok (F_X12_keeps (some 175) M) (fun M' => y_PV 9007199254740992 M M' ∧ ∀ j : Nat, j < 157 → M'.2.1 188 j = M.2.1 185 j) := by
  delta F_X12_keeps F_X12_keeps_b0
  exact Ok_w (S_X12_keeps_L2 g_fuel H (by decide) (by decide)) (fun M' z => ⟨z.1, fun j h => z.2.1 j (by show (0 : Int) ≤ j; omega) h⟩)
theorem S_X12_keeps {M : gM} (H : y_HT M) : Ok (F_X12_keeps (some 175) M) (y_PV 9007199254740992 M) := Ok_w (S_X12_keeps2 H) (fun _ z => z.1)
theorem S_X12_laysBack_L2 : ∀ (n : Nat) {l1 : Int32} {M : gM}, y_HT M → (0 ≤ l1.toInt ∧ l1.toInt ≤ 157) → 157 - l1.toInt < (n : Int) → Ok (F_X12_laysBack_L2 n (some 175) l1 M) (fun M' => y_PV 1125899906842624 M M' ∧ (∀ j : Nat, l1.toInt ≤ (j : Int) → j < 157 → M'.2.1 185 j = M.2.1 188 j) ∧ ∀ j : Nat, (j : Int) < l1.toInt → M'.2.1 185 j = M.2.1 185 j) := by
  intro n
  induction n with
  | zero =>
    intro l1 M H h hm
    exfalso
    omega
  | succ n ih =>
    intro l1 M H h hm
    show Ok (F_X12_laysBack_b2 (F_X12_laysBack_L2 n) (some 175) l1 M) _
    delta F_X12_laysBack_b2
    refine Ok_i (fun c => ?_) (fun c => ?_)
    · replace c := i_le c
      rw [L2_157] at c
      exact Ok_s ⟨⟨H, y_rf0 _ _⟩, fun j h1 h2 => by omega, fun _ _ => rfl⟩
    · replace c := i_nle c
      rw [L2_157] at c
      have a := i_addc (x := l1) (c := (1 : Int32)) L2_1 (by omega) (by omega)
      have e1 := i_clamp (x := l1) (by omega)
      refine y_gR (w := 185) H rfl (by decide) ?_
      refine y_gR (w := 188) H rfl (by decide) ?_
      refine y_aI H (i := 188) (n := 157) rfl (by decide) (by omega) (by omega) (fun v3 q3 => ?_)
      refine y_sI (S := 1125899906842624) H (i := 185) (n := 157) rfl (by omega) (by omega) (y_mv H (by decide) q3 rfl) (by decide) (fun M4 H4 f4 q4 o4 l4 => ?_)
      refine Ok_w (ih H4 (by omega) (by omega)) (fun M' z => ⟨⟨z.1.1, y_tr f4 z.1.2⟩, fun j h1 h2 => ?_, fun j h1 => ?_⟩)
      rotate_left
      · rw [z.2.2 j (by omega)]
        exact o4 _ _ (Or.inr (by omega))
      have hs : M4.2.1 188 j = M.2.1 188 j := o4 _ _ (Or.inl (by decide))
      by_cases e : j = l1.toNatClampNeg
      · rw [z.2.2 j (by omega), e, q4, q3]
      · rw [z.2.1 j (by omega) h2, hs]
theorem S_X12_laysBack2 {M : gM} (H : y_HT M) : Ok (F_X12_laysBack (some 175) M) (fun M' => y_PV 1125899906842624 M M' ∧ ∀ j : Nat, j < 157 → M'.2.1 185 j = M.2.1 188 j) := by
  delta F_X12_laysBack F_X12_laysBack_b0
  exact Ok_w (S_X12_laysBack_L2 g_fuel H (by decide) (by decide)) (fun M' z => ⟨z.1, fun j h => z.2.1 j (by show (0 : Int) ≤ j; omega) h⟩)
theorem S_X12_laysBack {M : gM} (H : y_HT M) : Ok (F_X12_laysBack (some 175) M) (y_PV 1125899906842624 M) := Ok_w (S_X12_laysBack2 H) (fun _ z => z.1)
theorem S_X12_ahead_b20  {M : gM} (H : y_HT M) (W : y_W M) : Ok (F_X12_ahead_b20 M) (y_PI 12384898975531008 M (-2147483648) (2147483647)) := by
  delta F_X12_ahead_b20
  exact z_PI (i_rng _) H (y_rf0 _ _)
theorem S_X12_ahead_b28 {k28 : Option Nat → Int32 → Int32 → Int32 → gM → Option (Int32 × gM)} {m28 : Int} {l1 : Int32} {l2 : Int32} {l3 : Int32} {M : gM} (hk28 : ∀ {l1 : Int32} {l2 : Int32} {l3 : Int32} {M : gM}, y_HT M → (0 ≤ l1.toInt ∧ l1.toInt ≤ 6) → (0 ≤ l2.toInt ∧ l2.toInt ≤ 200) → (0 ≤ l3.toInt ∧ l3.toInt ≤ 200) → (y_W M) → 200 - l3.toInt < m28 → Ok (k28 (some 175) l1 l2 l3 M) (y_PI 12384898975531008 M (-2147483648) (2147483647))) (H : y_HT M) (h_l1 : 0 ≤ l1.toInt ∧ l1.toInt ≤ 6) (h_l2 : 0 ≤ l2.toInt ∧ l2.toInt ≤ 200) (h_l3 : 0 ≤ l3.toInt ∧ l3.toInt ≤ 200) (W : y_W M) (hm28 : 200 - l3.toInt ≤ m28) : Ok (F_X12_ahead_b28 k28 (some 175) l1 l2 l3 M) (y_PI 12384898975531008 M (-2147483648) (2147483647)) := by
  delta F_X12_ahead_b28
  refine Ok_i (fun c_1 => ?_) (fun c_1 => ?_)
  · skip
    replace c_1 := i_le c_1
    refine y_gO H ?_
    refine Ok_b (S_X12_holdsOf H h_l1) (fun v2 e_v2 => ?_)
    clear e_v2
    refine Ok_b (S_X12_laysBack H) (fun M3 zM3 => ?_)
    obtain ⟨HM3, fM3⟩ := zM3
    exact z_PI (i_rng _) HM3 (y_fl (S2 := 12384898975531008) (by decide) fM3)
  · skip
    replace c_1 := i_nle c_1
    refine y_gO H ?_
    refine Ok_b (S_X12_passes H W) (fun yM6 zM6 => ?_)
    obtain ⟨v5, M6⟩ := yM6
    obtain ⟨e_v5, HM6, fM6⟩ := zM6
    try dsimp only at e_v5 HM6 fM6
    have a_2 := i_addc (x := l3) (c := 1) L2_1 (by omega) (by omega)
    exact v_PI (S1 := 12384898975531008) (y_fl (S2 := 12384898975531008) (by decide) fM6) (hk28 HM6 h_l1 h_l2 (by omega) (y_Wf (y_fl (S2 := 12384898975531008) (by decide) fM6) (by decide) W) (by omega)) (by decide) (by decide) (by decide)
theorem S_X12_ahead_L28 : ∀ (n : Nat) {l1 : Int32} {l2 : Int32} {l3 : Int32} {M : gM}, y_HT M → (0 ≤ l1.toInt ∧ l1.toInt ≤ 6) → (0 ≤ l2.toInt ∧ l2.toInt ≤ 200) → (0 ≤ l3.toInt ∧ l3.toInt ≤ 200) → (y_W M) → 200 - l3.toInt < (n : Int) → Ok (F_X12_ahead_L28 n (some 175) l1 l2 l3 M) (y_PI 12384898975531008 M (-2147483648) (2147483647)) := by
  intro n
  induction n with
  | zero =>
    intro l1 l2 l3 M H h_l1 h_l2 h_l3 W  hm
    exfalso
    omega
  | succ n ih =>
    intro l1 l2 l3 M H h_l1 h_l2 h_l3 W  hm
    exact S_X12_ahead_b28 (m28 := 200 - l3.toInt) (fun H h_l1 h_l2 h_l3 W  hmz => ih H h_l1 h_l2 h_l3 W  (by omega)) H h_l1 h_l2 h_l3 W  (Int.le_refl _)
set_option maxHeartbeats 1000000 in
theorem S_X12_ahead_b0 {l1 : Int32} {l2 : Int32} {M : gM} (H : y_HT M) (W : y_W M) : Ok (F_X12_ahead_b0 (some 175) l1 l2 M) (y_PI 12384898975531008 M (-2147483648) (2147483647)) := by
  delta F_X12_ahead_b0
  refine y_gO H ?_
  refine Ok_b (S_X12_isHeir H) (fun v2 e_v2 => ?_)
  obtain ⟨e_v2, w_v2⟩ := e_v2
  refine Ok_i (fun c_1 => ?_) (fun c_1 => ?_)
  · skip
    replace c_1 := i_eq c_1
    rw [L2_0] at c_1
    exact v_PI (S1 := 12384898975531008) (y_rf0 _ _) (S_X12_ahead_b20  H W) (by decide) (by decide) (by decide)
  · skip
    replace c_1 := i_ne c_1
    rw [L2_0] at c_1
    have x_v2 := w_v2 (by omega)
    refine Ok_b (S_X12_in (lo := 0) (hi := 200) rfl rfl) (fun v3 e_v3 => ?_)
    obtain ⟨e_v3, w_v3⟩ := e_v3
    refine Ok_i (fun c_2 => ?_) (fun c_2 => ?_)
    · skip
      replace c_2 := i_eq c_2
      rw [L2_0] at c_2
      exact v_PI (S1 := 12384898975531008) (y_rf0 _ _) (S_X12_ahead_b20  H W) (by decide) (by decide) (by decide)
    · skip
      replace c_2 := i_ne c_2
      rw [L2_0] at c_2
      have x_v3 := w_v3 (by omega)
      refine Ok_b (S_X12_keeps H) (fun M4 zM4 => ?_)
      obtain ⟨HM4, fM4⟩ := zM4
      exact v_PI (S1 := 12384898975531008) (y_fl (S2 := 12384898975531008) (by decide) fM4) (S_X12_ahead_L28  g_fuel HM4 (by omega) (by omega) (by decide) (y_Wf (y_fl (S2 := 12384898975531008) (by decide) fM4) (by decide) W) (q_fu (by rw [L2_0]; omega))) (by decide) (by decide) (by decide)
theorem S_X12_ahead {l1 : Int32} {l2 : Int32} {M : gM} (H : y_HT M) (W : y_W M) : Ok (F_X12_ahead (some 175) l1 l2 M) (y_PI 12384898975531008 M (-2147483648) (2147483647)) := by
  delta F_X12_ahead
  exact v_PI (S1 := 12384898975531008) (y_rf0 _ _) (S_X12_ahead_b0  H W) (by decide) (by decide) (by decide)
theorem S_X12_strikeOf_b29 {l1 : Int32} {M : gM} (H : y_HT M) (h_l1 : 0 ≤ l1.toInt ∧ l1.toInt ≤ 6) (W : y_W M) : Ok (F_X12_strikeOf_b29 (some 175) l1 M) (y_PI 3377699720790016 M (-2147483648) (2147483647)) := by
  delta F_X12_strikeOf_b29
  refine y_gO H ?_
  refine Ok_b (S_X12_thingOf H h_l1 (by decide)) (fun v2 e_v2 => ?_)
  clear e_v2
  refine Ok_b (S_X12_laysBack H) (fun M3 zM3 => ?_)
  obtain ⟨HM3, fM3⟩ := zM3
  exact z_PI (i_rng _) HM3 (y_fl (S2 := 3377699720790016) (by decide) fM3)
set_option maxHeartbeats 1000000 in
theorem S_X12_strikeOf_b2 {k2 : Option Nat → Int32 → Int32 → gM → Option (Int32 × gM)} {m2 : Int} {l1 : Int32} {l2 : Int32} {M : gM} (hk2 : ∀ {l1 : Int32} {l2 : Int32} {M : gM}, y_HT M → (0 ≤ l1.toInt ∧ l1.toInt ≤ 6) → (0 ≤ l2.toInt ∧ l2.toInt ≤ 200) → (y_W M) → 200 - l2.toInt < m2 → Ok (k2 (some 175) l1 l2 M) (y_PI 3377699720790016 M (-2147483648) (2147483647))) (H : y_HT M) (h_l1 : 0 ≤ l1.toInt ∧ l1.toInt ≤ 6) (h_l2 : 0 ≤ l2.toInt ∧ l2.toInt ≤ 200) (W : y_W M) (hm2 : 200 - l2.toInt ≤ m2) : Ok (F_X12_strikeOf_b2 k2 (some 175) l1 l2 M) (y_PI 3377699720790016 M (-2147483648) (2147483647)) := by
  delta F_X12_strikeOf_b2
  refine Ok_i (fun c_1 => ?_) (fun c_1 => ?_)
  · skip
    replace c_1 := i_le c_1
    rw [L2_200] at c_1
    exact v_PI (S1 := 3377699720790016) (y_rf0 _ _) (S_X12_strikeOf_b29  H h_l1 W) (by decide) (by decide) (by decide)
  · skip
    replace c_1 := i_nle c_1
    rw [L2_200] at c_1
    refine y_gO H ?_
    refine Ok_b (S_X12_thingOf H h_l1 (by decide)) (fun v2 e_v2 => ?_)
    clear e_v2
    refine Ok_i (fun c_2 => ?_) (fun c_2 => ?_)
    · skip
      replace c_2 := i_le c_2
      rw [L2_0] at c_2
      exact v_PI (S1 := 3377699720790016) (y_rf0 _ _) (S_X12_strikeOf_b29  H h_l1 W) (by decide) (by decide) (by decide)
    · skip
      replace c_2 := i_nle c_2
      rw [L2_0] at c_2
      refine Ok_b (S_X12_passes H W) (fun yM4 zM4 => ?_)
      obtain ⟨v3, M4⟩ := yM4
      obtain ⟨e_v3, HM4, fM4⟩ := zM4
      try dsimp only at e_v3 HM4 fM4
      have a_3 := i_addc (x := l2) (c := 1) L2_1 (by omega) (by omega)
      exact v_PI (S1 := 3377699720790016) fM4 (hk2 HM4 h_l1 (by omega) (y_Wf fM4 (by decide) W) (by omega)) (by decide) (by decide) (by decide)
theorem S_X12_strikeOf_L2 : ∀ (n : Nat) {l1 : Int32} {l2 : Int32} {M : gM}, y_HT M → (0 ≤ l1.toInt ∧ l1.toInt ≤ 6) → (0 ≤ l2.toInt ∧ l2.toInt ≤ 200) → (y_W M) → 200 - l2.toInt < (n : Int) → Ok (F_X12_strikeOf_L2 n (some 175) l1 l2 M) (y_PI 3377699720790016 M (-2147483648) (2147483647)) := by
  intro n
  induction n with
  | zero =>
    intro l1 l2 M H h_l1 h_l2 W  hm
    exfalso
    omega
  | succ n ih =>
    intro l1 l2 M H h_l1 h_l2 W  hm
    exact S_X12_strikeOf_b2 (m2 := 200 - l2.toInt) (fun H h_l1 h_l2 W  hmz => ih H h_l1 h_l2 W  (by omega)) H h_l1 h_l2 W  (Int.le_refl _)
theorem S_X12_strikeOf_b0 {l1 : Int32} {M : gM} (H : y_HT M) (h_l1 : 0 ≤ l1.toInt ∧ l1.toInt ≤ 6) (W : y_W M) : Ok (F_X12_strikeOf_b0 (some 175) l1 M) (y_PI 3377699720790016 M (-2147483648) (2147483647)) := by
  delta F_X12_strikeOf_b0
  exact v_PI (S1 := 3377699720790016) (y_rf0 _ _) (S_X12_strikeOf_L2  g_fuel H h_l1 (by decide) W (q_fu (by rw [L2_0]; omega))) (by decide) (by decide) (by decide)
theorem S_X12_strikeOf {l1 : Int32} {M : gM} (H : y_HT M) (h_l1 : 0 ≤ l1.toInt ∧ l1.toInt ≤ 6) (W : y_W M) : Ok (F_X12_strikeOf (some 175) l1 M) (y_PI 3377699720790016 M (-2147483648) (2147483647)) := by
  delta F_X12_strikeOf
  exact v_PI (S1 := 3377699720790016) (y_rf0 _ _) (S_X12_strikeOf_b0  H h_l1 W) (by decide) (by decide) (by decide)
set_option maxHeartbeats 1000000 in
theorem S_X12_strike_b0 {l1 : Int32} {M : gM} (H : y_HT M) (W : y_W M) : Ok (F_X12_strike_b0 (some 175) l1 M) (y_PI 12384898975531008 M (-2147483648) (2147483647)) := by
  delta F_X12_strike_b0
  refine y_gO H ?_
  refine Ok_b (S_X12_isThing H) (fun v2 e_v2 => ?_)
  obtain ⟨e_v2, w_v2⟩ := e_v2
  refine Ok_i (fun c_1 => ?_) (fun c_1 => ?_)
  · skip
    replace c_1 := i_eq c_1
    rw [L2_0] at c_1
    exact z_PI (i_rng _) H (y_rf0 _ _)
  · skip
    replace c_1 := i_ne c_1
    rw [L2_0] at c_1
    have x_v2 := w_v2 (by omega)
    refine Ok_b (S_X12_keeps H) (fun M3 zM3 => ?_)
    obtain ⟨HM3, fM3⟩ := zM3
    refine y_gC HM3 ?_
    refine Ok_b (S_X12_strikeOf HM3 (by omega) (y_Wf (y_fl (S2 := 12384898975531008) (by decide) fM3) (by decide) W)) (fun yM6 zM6 => ?_)
    obtain ⟨v5, M6⟩ := yM6
    obtain ⟨e_v5, HM6, fM6⟩ := zM6
    try dsimp only at e_v5 HM6 fM6
    have g_2 := y_tr (y_fl (S2 := 12384898975531008) (by decide) fM3) (y_fl (S2 := 12384898975531008) (by decide) fM6)
    refine Ok_i (fun c_3 => ?_) (fun c_3 => ?_)
    · skip
      replace c_3 := i_le c_3
      rw [L2_0] at c_3
      exact z_PI (i_rng _) HM6 g_2
    · skip
      replace c_3 := i_nle c_3
      rw [L2_0] at c_3
      exact z_PI (i_rng _) HM6 g_2
theorem S_X12_strike {l1 : Int32} {M : gM} (H : y_HT M) (W : y_W M) : Ok (F_X12_strike (some 175) l1 M) (y_PI 12384898975531008 M (-2147483648) (2147483647)) := by
  delta F_X12_strike
  exact v_PI (S1 := 12384898975531008) (y_rf0 _ _) (S_X12_strike_b0  H W) (by decide) (by decide) (by decide)
theorem S_X12_most_b47 {k4 : Option Nat → Int32 → Int32 → Option Int32} {m4 : Int} {l1 : Int32} {l2 : Int32} {M : gM} (hk4 : ∀ {l1 : Int32} {l2 : Int32}, y_HT M → (-1 ≤ l1.toInt ∧ l1.toInt ≤ 6) → (0 ≤ l2.toInt ∧ l2.toInt ≤ 7) → 7 - l2.toInt < m4 → Ok (k4 (some 175) l1 l2) (q_pi (-1) (6))) (H : y_HT M) (h_l1 : -1 ≤ l1.toInt ∧ l1.toInt ≤ 6) (h_l2 : 0 ≤ l2.toInt ∧ l2.toInt ≤ 6) (hm4 : 7 - l2.toInt ≤ m4) : Ok (F_X12_most_b47 k4 M (some 175) l1 l2) (q_pi (-1) (6)) := by
  delta F_X12_most_b47
  have a_1 := i_addc (x := l2) (c := 1) L2_1 (by omega) (by omega)
  exact w_pi (hk4 H h_l1 (by omega) (by omega)) (by decide) (by decide)
theorem S_X12_most_b45 {k4 : Option Nat → Int32 → Int32 → Option Int32} {m4 : Int} {l2 : Int32} {M : gM} (hk4 : ∀ {l1 : Int32} {l2 : Int32}, y_HT M → (-1 ≤ l1.toInt ∧ l1.toInt ≤ 6) → (0 ≤ l2.toInt ∧ l2.toInt ≤ 7) → 7 - l2.toInt < m4 → Ok (k4 (some 175) l1 l2) (q_pi (-1) (6))) (H : y_HT M) (h_l2 : 0 ≤ l2.toInt ∧ l2.toInt ≤ 6) (hm4 : 7 - l2.toInt ≤ m4) : Ok (F_X12_most_b45 k4 M (some 175) l2) (q_pi (-1) (6)) := by
  delta F_X12_most_b45
  exact w_pi (S_X12_most_b47 hk4 H (by omega) h_l2 (by omega)) (by decide) (by decide)
set_option maxHeartbeats 1000000 in
theorem S_X12_most_b4 {k4 : Option Nat → Int32 → Int32 → Option Int32} {m4 : Int} {l1 : Int32} {l2 : Int32} {M : gM} (hk4 : ∀ {l1 : Int32} {l2 : Int32}, y_HT M → (-1 ≤ l1.toInt ∧ l1.toInt ≤ 6) → (0 ≤ l2.toInt ∧ l2.toInt ≤ 7) → 7 - l2.toInt < m4 → Ok (k4 (some 175) l1 l2) (q_pi (-1) (6))) (H : y_HT M) (h_l1 : -1 ≤ l1.toInt ∧ l1.toInt ≤ 6) (h_l2 : 0 ≤ l2.toInt ∧ l2.toInt ≤ 7) (hm4 : 7 - l2.toInt ≤ m4) : Ok (F_X12_most_b4 k4 M (some 175) l1 l2) (q_pi (-1) (6)) := by
  delta F_X12_most_b4
  refine y_gR (w := 185) H rfl (by decide) ?_
  refine y_aIr (lo := 0) (hi := 7) H (i := 185) (n := 157) rfl (by decide) (by decide) (by decide) rfl (fun v2 q_v2 e_v2 => ?_)
  refine Ok_i (fun c_1 => ?_) (fun c_1 => ?_)
  · skip
    replace c_1 := i_le c_1
    exact r_pi (by omega)
  · skip
    replace c_1 := i_nle c_1
    refine y_gO H ?_
    refine Ok_b (S_X12_holdsOf H (by omega)) (fun v4 e_v4 => ?_)
    clear e_v4
    refine Ok_i (fun c_2 => ?_) (fun c_2 => ?_)
    · skip
      replace c_2 := i_eq c_2
      rw [L2_0] at c_2
      exact w_pi (S_X12_most_b47 hk4 H h_l1 (by omega) (by omega)) (by decide) (by decide)
    · skip
      replace c_2 := i_ne c_2
      rw [L2_0] at c_2
      refine Ok_i (fun c_3 => ?_) (fun c_3 => ?_)
      · skip
        replace c_3 := i_lt c_3
        rw [L2_0] at c_3
        exact w_pi (S_X12_most_b45 hk4 H (by omega) (by omega)) (by decide) (by decide)
      · skip
        replace c_3 := i_nlt c_3
        rw [L2_0] at c_3
        refine Ok_b (S_X12_holdsOf H (by omega)) (fun v5 e_v5 => ?_)
        clear e_v5
        refine Ok_b (S_X12_bits H) (fun v6 e_v6 => ?_)
        replace e_v6 := q_un e_v6
        refine Ok_b (S_X12_holdsOf H (by omega)) (fun v7 e_v7 => ?_)
        clear e_v7
        refine Ok_b (S_X12_bits H) (fun v8 e_v8 => ?_)
        replace e_v8 := q_un e_v8
        refine Ok_i (fun c_4 => ?_) (fun c_4 => ?_)
        · skip
          replace c_4 := i_le c_4
          exact w_pi (S_X12_most_b47 hk4 H h_l1 (by omega) (by omega)) (by decide) (by decide)
        · skip
          replace c_4 := i_nle c_4
          exact w_pi (S_X12_most_b45 hk4 H (by omega) (by omega)) (by decide) (by decide)
theorem S_X12_most_L4 {M : gM} : ∀ (n : Nat) {l1 : Int32} {l2 : Int32}, y_HT M → (-1 ≤ l1.toInt ∧ l1.toInt ≤ 6) → (0 ≤ l2.toInt ∧ l2.toInt ≤ 7) → 7 - l2.toInt < (n : Int) → Ok (F_X12_most_L4 M n (some 175) l1 l2) (q_pi (-1) (6)) := by
  intro n
  induction n with
  | zero =>
    intro l1 l2 H h_l1 h_l2  hm
    exfalso
    omega
  | succ n ih =>
    intro l1 l2 H h_l1 h_l2  hm
    exact S_X12_most_b4 (m4 := 7 - l2.toInt) (fun H h_l1 h_l2  hmz => ih H h_l1 h_l2  (by omega)) H h_l1 h_l2  (Int.le_refl _)
theorem S_X12_most_b0  {M : gM} (H : y_HT M) : Ok (F_X12_most_b0 M (some 175)) (q_pi (-1) (6)) := by
  delta F_X12_most_b0
  exact w_pi (S_X12_most_L4  g_fuel H (by decide) (by decide) (q_fu (by rw [L2_0]; omega))) (by decide) (by decide)
theorem S_X12_most  {M : gM} (H : y_HT M) : Ok (F_X12_most (some 175) M) (q_pi (-1) (6)) := by
  delta F_X12_most
  exact w_pi (S_X12_most_b0  H) (by decide) (by decide)
theorem S_X12_inherits_b17  {M : gM} (H : y_HT M) (W : y_W M) : Ok (F_X12_inherits_b17 M) (y_PI 12384898975531008 M (-2147483648) (2147483647)) := by
  delta F_X12_inherits_b17
  exact z_PI (i_rng _) H (y_rf0 _ _)
theorem S_X12_inherits_b61 {k32 : Option Nat → Int32 → Int32 → Int32 → Int32 → gM → Option (Int32 × gM)} {m32 : Int} {l1 : Int32} {l2 : Int32} {l3 : Int32} {l4 : Int32} {M : gM} (hk32 : ∀ {l1 : Int32} {l2 : Int32} {l3 : Int32} {l4 : Int32} {M : gM}, y_HT M → (0 ≤ l1.toInt ∧ l1.toInt ≤ 1) → (-2 ≤ l2.toInt ∧ l2.toInt ≤ 6) → (0 ≤ l4.toInt ∧ l4.toInt ≤ 201) → (y_W M) → 201 - l4.toInt < m32 → Ok (k32 (some 175) l1 l2 l3 l4 M) (y_PI 12384898975531008 M (-2147483648) (2147483647))) (H : y_HT M) (h_l1 : 0 ≤ l1.toInt ∧ l1.toInt ≤ 1) (h_l2 : -2 ≤ l2.toInt ∧ l2.toInt ≤ 6) (h_l4 : 0 ≤ l4.toInt ∧ l4.toInt ≤ 200) (W : y_W M) (hm32 : 201 - l4.toInt ≤ m32) : Ok (F_X12_inherits_b61 k32 (some 175) l1 l2 l3 l4 M) (y_PI 12384898975531008 M (-2147483648) (2147483647)) := by
  delta F_X12_inherits_b61
  refine y_gO H ?_
  refine Ok_b (S_X12_passes H W) (fun yM3 zM3 => ?_)
  obtain ⟨v2, M3⟩ := yM3
  obtain ⟨e_v2, HM3, fM3⟩ := zM3
  try dsimp only at e_v2 HM3 fM3
  have a_1 := i_addc (x := l4) (c := 1) L2_1 (by omega) (by omega)
  exact v_PI (S1 := 12384898975531008) (y_fl (S2 := 12384898975531008) (by decide) fM3) (hk32 HM3 h_l1 h_l2 (by omega) (y_Wf (y_fl (S2 := 12384898975531008) (by decide) fM3) (by decide) W) (by omega)) (by decide) (by decide) (by decide)
set_option maxHeartbeats 1000000 in
theorem S_X12_inherits_b32 {k32 : Option Nat → Int32 → Int32 → Int32 → Int32 → gM → Option (Int32 × gM)} {m32 : Int} {l1 : Int32} {l2 : Int32} {l3 : Int32} {l4 : Int32} {M : gM} (hk32 : ∀ {l1 : Int32} {l2 : Int32} {l3 : Int32} {l4 : Int32} {M : gM}, y_HT M → (0 ≤ l1.toInt ∧ l1.toInt ≤ 1) → (-2 ≤ l2.toInt ∧ l2.toInt ≤ 6) → (0 ≤ l4.toInt ∧ l4.toInt ≤ 201) → (y_W M) → 201 - l4.toInt < m32 → Ok (k32 (some 175) l1 l2 l3 l4 M) (y_PI 12384898975531008 M (-2147483648) (2147483647))) (H : y_HT M) (h_l1 : 0 ≤ l1.toInt ∧ l1.toInt ≤ 1) (h_l2 : -2 ≤ l2.toInt ∧ l2.toInt ≤ 6) (h_l4 : 0 ≤ l4.toInt ∧ l4.toInt ≤ 201) (W : y_W M) (hm32 : 201 - l4.toInt ≤ m32) : Ok (F_X12_inherits_b32 k32 (some 175) l1 l2 l3 l4 M) (y_PI 12384898975531008 M (-2147483648) (2147483647)) := by
  delta F_X12_inherits_b32
  refine Ok_i (fun c_1 => ?_) (fun c_1 => ?_)
  · skip
    replace c_1 := i_lt c_1
    rw [L2_200] at c_1
    refine y_gO H ?_
    refine Ok_b (S_X12_laysBack H) (fun M2 zM2 => ?_)
    obtain ⟨HM2, fM2⟩ := zM2
    refine y_gR (w := 185) HM2 rfl (by decide) ?_
    refine y_aI HM2 (i := 185) (n := 157) rfl (by decide) (by decide) (by decide) (fun v4 q_v4 => ?_)
    refine Ok_i (fun c_2 => ?_) (fun c_2 => ?_)
    · skip
      replace c_2 := i_eq c_2
      exact z_PI (i_rng _) HM2 (y_fl (S2 := 12384898975531008) (by decide) fM2)
    · skip
      replace c_2 := i_ne c_2
      refine Ok_i (fun c_3 => ?_) (fun c_3 => ?_)
      · skip
        replace c_3 := i_eq c_3
        rw [L2_0] at c_3
        exact z_PI (i_rng _) HM2 (y_fl (S2 := 12384898975531008) (by decide) fM2)
      · skip
        replace c_3 := i_ne c_3
        rw [L2_0] at c_3
        exact z_PI (i_rng _) HM2 (y_fl (S2 := 12384898975531008) (by decide) fM2)
  · skip
    replace c_1 := i_nlt c_1
    rw [L2_200] at c_1
    refine y_gO H ?_
    refine Ok_b (S_X12_most H) (fun v6 e_v6 => ?_)
    replace e_v6 := q_un e_v6
    refine Ok_i (fun c_4 => ?_) (fun c_4 => ?_)
    · skip
      replace c_4 := i_lt c_4
      rw [L2_0] at c_4
      exact v_PI (S1 := 12384898975531008) (y_rf0 _ _) (S_X12_inherits_b61 hk32 H h_l1 h_l2 (by omega) W (by omega)) (by decide) (by decide) (by decide)
    · skip
      replace c_4 := i_nlt c_4
      rw [L2_0] at c_4
      refine y_gR (w := 185) H rfl (by decide) ?_
      refine y_aI H (i := 185) (n := 157) rfl (by decide) (by decide) (by decide) (fun v8 q_v8 => ?_)
      exact v_PI (S1 := 12384898975531008) (y_rf0 _ _) (S_X12_inherits_b61 hk32 H h_l1 (by omega) (by omega) W (by omega)) (by decide) (by decide) (by decide)
theorem S_X12_inherits_L32 : ∀ (n : Nat) {l1 : Int32} {l2 : Int32} {l3 : Int32} {l4 : Int32} {M : gM}, y_HT M → (0 ≤ l1.toInt ∧ l1.toInt ≤ 1) → (-2 ≤ l2.toInt ∧ l2.toInt ≤ 6) → (0 ≤ l4.toInt ∧ l4.toInt ≤ 201) → (y_W M) → 201 - l4.toInt < (n : Int) → Ok (F_X12_inherits_L32 n (some 175) l1 l2 l3 l4 M) (y_PI 12384898975531008 M (-2147483648) (2147483647)) := by
  intro n
  induction n with
  | zero =>
    intro l1 l2 l3 l4 M H h_l1 h_l2 h_l4 W  hm
    exfalso
    omega
  | succ n ih =>
    intro l1 l2 l3 l4 M H h_l1 h_l2 h_l4 W  hm
    exact S_X12_inherits_b32 (m32 := 201 - l4.toInt) (fun H h_l1 h_l2 h_l4 W  hmz => ih H h_l1 h_l2 h_l4 W  (by omega)) H h_l1 h_l2 h_l4 W  (Int.le_refl _)
set_option maxHeartbeats 1000000 in
theorem S_X12_inherits_b0 {l1 : Int32} {M : gM} (H : y_HT M) (W : y_W M) : Ok (F_X12_inherits_b0 (some 175) l1 M) (y_PI 12384898975531008 M (-2147483648) (2147483647)) := by
  delta F_X12_inherits_b0
  refine y_gO H ?_
  refine Ok_b (S_X12_isHouse H) (fun v2 e_v2 => ?_)
  replace e_v2 := q_un e_v2
  refine Ok_i (fun c_1 => ?_) (fun c_1 => ?_)
  · skip
    replace c_1 := i_eq c_1
    rw [L2_0] at c_1
    exact v_PI (S1 := 12384898975531008) (y_rf0 _ _) (S_X12_inherits_b17  H W) (by decide) (by decide) (by decide)
  · skip
    replace c_1 := i_ne c_1
    rw [L2_0] at c_1
    refine Ok_b (S_X12_in (lo := 0) (hi := 1) rfl rfl) (fun v3 e_v3 => ?_)
    obtain ⟨e_v3, w_v3⟩ := e_v3
    refine Ok_i (fun c_2 => ?_) (fun c_2 => ?_)
    · skip
      replace c_2 := i_eq c_2
      rw [L2_0] at c_2
      exact v_PI (S1 := 12384898975531008) (y_rf0 _ _) (S_X12_inherits_b17  H W) (by decide) (by decide) (by decide)
    · skip
      replace c_2 := i_ne c_2
      rw [L2_0] at c_2
      have x_v3 := w_v3 (by omega)
      refine Ok_b (S_X12_keeps H) (fun M4 zM4 => ?_)
      obtain ⟨HM4, fM4⟩ := zM4
      exact v_PI (S1 := 12384898975531008) (y_fl (S2 := 12384898975531008) (by decide) fM4) (S_X12_inherits_L32  g_fuel HM4 (by omega) (by decide) (by decide) (y_Wf (y_fl (S2 := 12384898975531008) (by decide) fM4) (by decide) W) (q_fu (by rw [L2_0]; omega))) (by decide) (by decide) (by decide)
theorem S_X12_inherits {l1 : Int32} {M : gM} (H : y_HT M) (W : y_W M) : Ok (F_X12_inherits (some 175) l1 M) (y_PI 12384898975531008 M (-2147483648) (2147483647)) := by
  delta F_X12_inherits
  exact v_PI (S1 := 12384898975531008) (y_rf0 _ _) (S_X12_inherits_b0  H W) (by decide) (by decide) (by decide)
theorem S_X12_longest_b91 {k40 : Option Nat → Int32 → Int32 → Int32 → gM → Option (Int32 × gM)} {m40 : Int} {l1 : Int32} {l2 : Int32} {l3 : Int32} {M : gM} (hk40 : ∀ {l1 : Int32} {l2 : Int32} {l3 : Int32} {M : gM}, y_HT M → (-2 ≤ l1.toInt ∧ l1.toInt ≤ 6) → (0 ≤ l3.toInt ∧ l3.toInt ≤ 7) → (y_W M) → 7 - l3.toInt < m40 → Ok (k40 (some 175) l1 l2 l3 M) (y_PI 12384898975531008 M (-2) (6))) (H : y_HT M) (h_l1 : 0 ≤ l1.toInt ∧ l1.toInt ≤ 6) (h_l3 : 0 ≤ l3.toInt ∧ l3.toInt ≤ 6) (W : y_W M) (hm40 : 7 - l3.toInt ≤ m40) : Ok (F_X12_longest_b91 k40 (some 175) l1 l2 l3 M) (y_PI 12384898975531008 M (-2) (6)) := by
  delta F_X12_longest_b91
  have a_1 := i_addc (x := l3) (c := 1) L2_1 (by omega) (by omega)
  exact v_PI (S1 := 12384898975531008) (y_rf0 _ _) (hk40 H (by omega) (by omega) W (by omega)) (by decide) (by decide) (by decide)
theorem S_X12_longest_b86 {k40 : Option Nat → Int32 → Int32 → Int32 → gM → Option (Int32 × gM)} {m40 : Int} {l3 : Int32} {l4 : Int32} {M : gM} (hk40 : ∀ {l1 : Int32} {l2 : Int32} {l3 : Int32} {M : gM}, y_HT M → (-2 ≤ l1.toInt ∧ l1.toInt ≤ 6) → (0 ≤ l3.toInt ∧ l3.toInt ≤ 7) → (y_W M) → 7 - l3.toInt < m40 → Ok (k40 (some 175) l1 l2 l3 M) (y_PI 12384898975531008 M (-2) (6))) (H : y_HT M) (h_l3 : 0 ≤ l3.toInt ∧ l3.toInt ≤ 6) (W : y_W M) (hm40 : 7 - l3.toInt ≤ m40) : Ok (F_X12_longest_b86 k40 (some 175) l3 l4 M) (y_PI 12384898975531008 M (-2) (6)) := by
  delta F_X12_longest_b86
  exact v_PI (S1 := 12384898975531008) (y_rf0 _ _) (S_X12_longest_b91 hk40 H h_l3 h_l3 W (by omega)) (by decide) (by decide) (by decide)
theorem S_X12_longest_b71 {k40 : Option Nat → Int32 → Int32 → Int32 → gM → Option (Int32 × gM)} {m40 : Int} {l1 : Int32} {l2 : Int32} {l3 : Int32} {s0 : Int32} {M : gM} (hk40 : ∀ {l1 : Int32} {l2 : Int32} {l3 : Int32} {M : gM}, y_HT M → (-2 ≤ l1.toInt ∧ l1.toInt ≤ 6) → (0 ≤ l3.toInt ∧ l3.toInt ≤ 7) → (y_W M) → 7 - l3.toInt < m40 → Ok (k40 (some 175) l1 l2 l3 M) (y_PI 12384898975531008 M (-2) (6))) (H : y_HT M) (h_l1 : -2 ≤ l1.toInt ∧ l1.toInt ≤ 6) (h_l3 : 0 ≤ l3.toInt ∧ l3.toInt ≤ 6) (W : y_W M) (hm40 : 7 - l3.toInt ≤ m40) : Ok (F_X12_longest_b71 k40 (some 175) l1 l2 l3 s0 M) (y_PI 12384898975531008 M (-2) (6)) := by
  delta F_X12_longest_b71
  refine Ok_i (fun c_1 => ?_) (fun c_1 => ?_)
  · skip
    replace c_1 := i_lt c_1
    rw [L2_0] at c_1
    exact v_PI (S1 := 12384898975531008) (y_rf0 _ _) (S_X12_longest_b86 hk40 H h_l3 W (by omega)) (by decide) (by decide) (by decide)
  · skip
    replace c_1 := i_nlt c_1
    rw [L2_0] at c_1
    refine Ok_i (fun c_2 => ?_) (fun c_2 => ?_)
    · skip
      replace c_2 := i_lt c_2
      exact v_PI (S1 := 12384898975531008) (y_rf0 _ _) (S_X12_longest_b86 hk40 H h_l3 W (by omega)) (by decide) (by decide) (by decide)
    · skip
      replace c_2 := i_nlt c_2
      exact v_PI (S1 := 12384898975531008) (y_rf0 _ _) (S_X12_longest_b91 hk40 H (by omega) h_l3 W (by omega)) (by decide) (by decide) (by decide)
set_option maxHeartbeats 1000000 in
theorem S_X12_longest_b40 {k40 : Option Nat → Int32 → Int32 → Int32 → gM → Option (Int32 × gM)} {m40 : Int} {l1 : Int32} {l2 : Int32} {l3 : Int32} {M : gM} (hk40 : ∀ {l1 : Int32} {l2 : Int32} {l3 : Int32} {M : gM}, y_HT M → (-2 ≤ l1.toInt ∧ l1.toInt ≤ 6) → (0 ≤ l3.toInt ∧ l3.toInt ≤ 7) → (y_W M) → 7 - l3.toInt < m40 → Ok (k40 (some 175) l1 l2 l3 M) (y_PI 12384898975531008 M (-2) (6))) (H : y_HT M) (h_l1 : -2 ≤ l1.toInt ∧ l1.toInt ≤ 6) (h_l3 : 0 ≤ l3.toInt ∧ l3.toInt ≤ 7) (W : y_W M) (hm40 : 7 - l3.toInt ≤ m40) : Ok (F_X12_longest_b40 k40 (some 175) l1 l2 l3 M) (y_PI 12384898975531008 M (-2) (6)) := by
  delta F_X12_longest_b40
  refine y_gR (w := 185) H rfl (by decide) ?_
  refine y_aIr (lo := 0) (hi := 7) H (i := 185) (n := 157) rfl (by decide) (by decide) (by decide) rfl (fun v2 q_v2 e_v2 => ?_)
  refine Ok_i (fun c_1 => ?_) (fun c_1 => ?_)
  · skip
    replace c_1 := i_le c_1
    refine y_gO H ?_
    refine Ok_b (S_X12_laysBack H) (fun M4 zM4 => ?_)
    obtain ⟨HM4, fM4⟩ := zM4
    exact z_PI (by omega) HM4 (y_fl (S2 := 12384898975531008) (by decide) fM4)
  · skip
    replace c_1 := i_nle c_1
    refine y_gO H ?_
    refine Ok_b (S_X12_thingOf H (by omega) (by decide)) (fun v6 e_v6 => ?_)
    clear e_v6
    refine Ok_i (fun c_2 => ?_) (fun c_2 => ?_)
    · skip
      replace c_2 := i_le c_2
      rw [L2_0] at c_2
      refine Ok_b (S_X12_thingOf H (by omega) (by decide)) (fun v7 e_v7 => ?_)
      clear e_v7
      exact v_PI (S1 := 12384898975531008) (y_rf0 _ _) (S_X12_longest_b71 hk40 H h_l1 (by omega) W (by omega)) (by decide) (by decide) (by decide)
    · skip
      replace c_2 := i_nle c_2
      rw [L2_0] at c_2
      exact v_PI (S1 := 12384898975531008) (y_rf0 _ _) (S_X12_longest_b71 hk40 H h_l1 (by omega) W (by omega)) (by decide) (by decide) (by decide)
theorem S_X12_longest_L40 : ∀ (n : Nat) {l1 : Int32} {l2 : Int32} {l3 : Int32} {M : gM}, y_HT M → (-2 ≤ l1.toInt ∧ l1.toInt ≤ 6) → (0 ≤ l3.toInt ∧ l3.toInt ≤ 7) → (y_W M) → 7 - l3.toInt < (n : Int) → Ok (F_X12_longest_L40 n (some 175) l1 l2 l3 M) (y_PI 12384898975531008 M (-2) (6)) := by
  intro n
  induction n with
  | zero =>
    intro l1 l2 l3 M H h_l1 h_l3 W  hm
    exfalso
    omega
  | succ n ih =>
    intro l1 l2 l3 M H h_l1 h_l3 W  hm
    exact S_X12_longest_b40 (m40 := 7 - l3.toInt) (fun H h_l1 h_l3 W  hmz => ih H h_l1 h_l3 W  (by omega)) H h_l1 h_l3 W  (Int.le_refl _)
theorem S_X12_longest_b20 {k20 : Option Nat → Int32 → Int32 → Int32 → gM → Option (Int32 × gM)} {m20 : Int} {l1 : Int32} {l2 : Int32} {l3 : Int32} {M : gM} (hk20 : ∀ {l1 : Int32} {l2 : Int32} {l3 : Int32} {M : gM}, y_HT M → (-2 ≤ l1.toInt ∧ l1.toInt ≤ -2) → (0 ≤ l2.toInt ∧ l2.toInt ≤ 0) → (0 ≤ l3.toInt ∧ l3.toInt ≤ 200) → (y_W M) → 200 - l3.toInt < m20 → Ok (k20 (some 175) l1 l2 l3 M) (y_PI 12384898975531008 M (-2) (6))) (H : y_HT M) (h_l1 : -2 ≤ l1.toInt ∧ l1.toInt ≤ -2) (h_l2 : 0 ≤ l2.toInt ∧ l2.toInt ≤ 0) (h_l3 : 0 ≤ l3.toInt ∧ l3.toInt ≤ 200) (W : y_W M) (hm20 : 200 - l3.toInt ≤ m20) : Ok (F_X12_longest_b20 k20 (some 175) l1 l2 l3 M) (y_PI 12384898975531008 M (-2) (6)) := by
  delta F_X12_longest_b20
  refine Ok_i (fun c_1 => ?_) (fun c_1 => ?_)
  · skip
    replace c_1 := i_le c_1
    rw [L2_200] at c_1
    exact v_PI (S1 := 12384898975531008) (y_rf0 _ _) (S_X12_longest_L40  g_fuel H (by omega) (by decide) W (q_fu (by rw [L2_0]; omega))) (by decide) (by decide) (by decide)
  · skip
    replace c_1 := i_nle c_1
    rw [L2_200] at c_1
    refine y_gO H ?_
    refine Ok_b (S_X12_passes H W) (fun yM3 zM3 => ?_)
    obtain ⟨v2, M3⟩ := yM3
    obtain ⟨e_v2, HM3, fM3⟩ := zM3
    try dsimp only at e_v2 HM3 fM3
    have a_2 := i_addc (x := l3) (c := 1) L2_1 (by omega) (by omega)
    exact v_PI (S1 := 12384898975531008) (y_fl (S2 := 12384898975531008) (by decide) fM3) (hk20 HM3 h_l1 h_l2 (by omega) (y_Wf (y_fl (S2 := 12384898975531008) (by decide) fM3) (by decide) W) (by omega)) (by decide) (by decide) (by decide)
theorem S_X12_longest_L20 : ∀ (n : Nat) {l1 : Int32} {l2 : Int32} {l3 : Int32} {M : gM}, y_HT M → (-2 ≤ l1.toInt ∧ l1.toInt ≤ -2) → (0 ≤ l2.toInt ∧ l2.toInt ≤ 0) → (0 ≤ l3.toInt ∧ l3.toInt ≤ 200) → (y_W M) → 200 - l3.toInt < (n : Int) → Ok (F_X12_longest_L20 n (some 175) l1 l2 l3 M) (y_PI 12384898975531008 M (-2) (6)) := by
  intro n
  induction n with
  | zero =>
    intro l1 l2 l3 M H h_l1 h_l2 h_l3 W  hm
    exfalso
    omega
  | succ n ih =>
    intro l1 l2 l3 M H h_l1 h_l2 h_l3 W  hm
    exact S_X12_longest_b20 (m20 := 200 - l3.toInt) (fun H h_l1 h_l2 h_l3 W  hmz => ih H h_l1 h_l2 h_l3 W  (by omega)) H h_l1 h_l2 h_l3 W  (Int.le_refl _)
theorem S_X12_longest_b0  {M : gM} (H : y_HT M) (W : y_W M) : Ok (F_X12_longest_b0 (some 175) M) (y_PI 12384898975531008 M (-2) (6)) := by
  delta F_X12_longest_b0
  refine y_gO H ?_
  refine Ok_b (S_X12_isHouse H) (fun v2 e_v2 => ?_)
  replace e_v2 := q_un e_v2
  refine Ok_i (fun c_1 => ?_) (fun c_1 => ?_)
  · skip
    replace c_1 := i_eq c_1
    rw [L2_0] at c_1
    exact z_PI (by decide) H (y_rf0 _ _)
  · skip
    replace c_1 := i_ne c_1
    rw [L2_0] at c_1
    refine Ok_b (S_X12_keeps H) (fun M3 zM3 => ?_)
    obtain ⟨HM3, fM3⟩ := zM3
    exact v_PI (S1 := 12384898975531008) (y_fl (S2 := 12384898975531008) (by decide) fM3) (S_X12_longest_L20  g_fuel HM3 (by decide) (by decide) (by decide) (y_Wf (y_fl (S2 := 12384898975531008) (by decide) fM3) (by decide) W) (q_fu (by rw [L2_0]; omega))) (by decide) (by decide) (by decide)
theorem S_X12_longest  {M : gM} (H : y_HT M) (W : y_W M) : Ok (F_X12_longest (some 175) M) (y_PI 12384898975531008 M (-2) (6)) := by
  delta F_X12_longest
  exact v_PI (S1 := 12384898975531008) (y_rf0 _ _) (S_X12_longest_b0  H W) (by decide) (by decide) (by decide)
theorem S_X12_fields_b19  {M : gM} (H : y_HT M) (W : y_W M) : Ok (F_X12_fields_b19 M) (y_PI 12384898975531008 M (-2147483648) (2147483647)) := by
  delta F_X12_fields_b19
  exact z_PI (i_rng _) H (y_rf0 _ _)
theorem S_X12_fields_b77 {k47 : Option Nat → Int32 → Int32 → gM → Option (Int32 × gM)} {m47 : Int} {l3 : Int32} {s0 : Int32} {s1 : Int32} {M : gM} (hk47 : ∀ {l2 : Int32} {l3 : Int32} {M : gM}, y_HT M → (0 ≤ l3.toInt ∧ l3.toInt ≤ 7) → (y_W M) → 7 - l3.toInt < m47 → Ok (k47 (some 175) l2 l3 M) (y_PI 12384898975531008 M (-2147483648) (2147483647))) (H : y_HT M) (h_l3 : 0 ≤ l3.toInt ∧ l3.toInt ≤ 6) (W : y_W M) (hm47 : 7 - l3.toInt ≤ m47) : Ok (F_X12_fields_b77 k47 (some 175) l3 s0 s1 M) (y_PI 12384898975531008 M (-2147483648) (2147483647)) := by
  delta F_X12_fields_b77
  have a_1 := i_addc (x := l3) (c := 1) L2_1 (by omega) (by omega)
  exact v_PI (S1 := 12384898975531008) (y_rf0 _ _) (hk47 H (by omega) W (by omega)) (by decide) (by decide) (by decide)
set_option maxHeartbeats 1000000 in
theorem S_X12_fields_b47 {k47 : Option Nat → Int32 → Int32 → gM → Option (Int32 × gM)} {m47 : Int} {l2 : Int32} {l3 : Int32} {M : gM} (hk47 : ∀ {l2 : Int32} {l3 : Int32} {M : gM}, y_HT M → (0 ≤ l3.toInt ∧ l3.toInt ≤ 7) → (y_W M) → 7 - l3.toInt < m47 → Ok (k47 (some 175) l2 l3 M) (y_PI 12384898975531008 M (-2147483648) (2147483647))) (H : y_HT M) (h_l3 : 0 ≤ l3.toInt ∧ l3.toInt ≤ 7) (W : y_W M) (hm47 : 7 - l3.toInt ≤ m47) : Ok (F_X12_fields_b47 k47 (some 175) l2 l3 M) (y_PI 12384898975531008 M (-2147483648) (2147483647)) := by
  delta F_X12_fields_b47
  refine y_gR (w := 185) H rfl (by decide) ?_
  refine y_aIr (lo := 0) (hi := 7) H (i := 185) (n := 157) rfl (by decide) (by decide) (by decide) rfl (fun v2 q_v2 e_v2 => ?_)
  refine Ok_i (fun c_1 => ?_) (fun c_1 => ?_)
  · skip
    replace c_1 := i_le c_1
    refine y_gO H ?_
    refine Ok_b (S_X12_laysBack H) (fun M4 zM4 => ?_)
    obtain ⟨HM4, fM4⟩ := zM4
    exact z_PI (i_rng _) HM4 (y_fl (S2 := 12384898975531008) (by decide) fM4)
  · skip
    replace c_1 := i_nle c_1
    refine y_gO H ?_
    refine Ok_b (S_X12_thingOf H (by omega) (by decide)) (fun v6 e_v6 => ?_)
    clear e_v6
    refine Ok_i (fun c_2 => ?_) (fun c_2 => ?_)
    · skip
      replace c_2 := i_le c_2
      rw [L2_0] at c_2
      exact v_PI (S1 := 12384898975531008) (y_rf0 _ _) (S_X12_fields_b77 hk47 H (by omega) W (by omega)) (by decide) (by decide) (by decide)
    · skip
      replace c_2 := i_nle c_2
      rw [L2_0] at c_2
      refine Ok_b (S_X12_thingOf H (by omega) (by decide)) (fun v7 e_v7 => ?_)
      clear e_v7
      exact v_PI (S1 := 12384898975531008) (y_rf0 _ _) (S_X12_fields_b77 hk47 H (by omega) W (by omega)) (by decide) (by decide) (by decide)
theorem S_X12_fields_L47 : ∀ (n : Nat) {l2 : Int32} {l3 : Int32} {M : gM}, y_HT M → (0 ≤ l3.toInt ∧ l3.toInt ≤ 7) → (y_W M) → 7 - l3.toInt < (n : Int) → Ok (F_X12_fields_L47 n (some 175) l2 l3 M) (y_PI 12384898975531008 M (-2147483648) (2147483647)) := by
  intro n
  induction n with
  | zero =>
    intro l2 l3 M H h_l3 W  hm
    exfalso
    omega
  | succ n ih =>
    intro l2 l3 M H h_l3 W  hm
    exact S_X12_fields_b47 (m47 := 7 - l3.toInt) (fun H h_l3 W  hmz => ih H h_l3 W  (by omega)) H h_l3 W  (Int.le_refl _)
theorem S_X12_fields_b29 {k29 : Option Nat → Int32 → Int32 → Int32 → gM → Option (Int32 × gM)} {m29 : Int} {l1 : Int32} {l2 : Int32} {l3 : Int32} {M : gM} (hk29 : ∀ {l1 : Int32} {l2 : Int32} {l3 : Int32} {M : gM}, y_HT M → (0 ≤ l1.toInt ∧ l1.toInt ≤ 200) → (0 ≤ l2.toInt ∧ l2.toInt ≤ 0) → (0 ≤ l3.toInt ∧ l3.toInt ≤ 200) → (y_W M) → 200 - l3.toInt < m29 → Ok (k29 (some 175) l1 l2 l3 M) (y_PI 12384898975531008 M (-2147483648) (2147483647))) (H : y_HT M) (h_l1 : 0 ≤ l1.toInt ∧ l1.toInt ≤ 200) (h_l2 : 0 ≤ l2.toInt ∧ l2.toInt ≤ 0) (h_l3 : 0 ≤ l3.toInt ∧ l3.toInt ≤ 200) (W : y_W M) (hm29 : 200 - l3.toInt ≤ m29) : Ok (F_X12_fields_b29 k29 (some 175) l1 l2 l3 M) (y_PI 12384898975531008 M (-2147483648) (2147483647)) := by
  delta F_X12_fields_b29
  refine Ok_i (fun c_1 => ?_) (fun c_1 => ?_)
  · skip
    replace c_1 := i_le c_1
    exact v_PI (S1 := 12384898975531008) (y_rf0 _ _) (S_X12_fields_L47  g_fuel H (by decide) W (q_fu (by rw [L2_0]; omega))) (by decide) (by decide) (by decide)
  · skip
    replace c_1 := i_nle c_1
    refine y_gO H ?_
    refine Ok_b (S_X12_passes H W) (fun yM3 zM3 => ?_)
    obtain ⟨v2, M3⟩ := yM3
    obtain ⟨e_v2, HM3, fM3⟩ := zM3
    try dsimp only at e_v2 HM3 fM3
    have a_2 := i_addc (x := l3) (c := 1) L2_1 (by omega) (by omega)
    exact v_PI (S1 := 12384898975531008) (y_fl (S2 := 12384898975531008) (by decide) fM3) (hk29 HM3 h_l1 h_l2 (by omega) (y_Wf (y_fl (S2 := 12384898975531008) (by decide) fM3) (by decide) W) (by omega)) (by decide) (by decide) (by decide)
theorem S_X12_fields_L29 : ∀ (n : Nat) {l1 : Int32} {l2 : Int32} {l3 : Int32} {M : gM}, y_HT M → (0 ≤ l1.toInt ∧ l1.toInt ≤ 200) → (0 ≤ l2.toInt ∧ l2.toInt ≤ 0) → (0 ≤ l3.toInt ∧ l3.toInt ≤ 200) → (y_W M) → 200 - l3.toInt < (n : Int) → Ok (F_X12_fields_L29 n (some 175) l1 l2 l3 M) (y_PI 12384898975531008 M (-2147483648) (2147483647)) := by
  intro n
  induction n with
  | zero =>
    intro l1 l2 l3 M H h_l1 h_l2 h_l3 W  hm
    exfalso
    omega
  | succ n ih =>
    intro l1 l2 l3 M H h_l1 h_l2 h_l3 W  hm
    exact S_X12_fields_b29 (m29 := 200 - l3.toInt) (fun H h_l1 h_l2 h_l3 W  hmz => ih H h_l1 h_l2 h_l3 W  (by omega)) H h_l1 h_l2 h_l3 W  (Int.le_refl _)
set_option maxHeartbeats 1000000 in
theorem S_X12_fields_b0 {l1 : Int32} {M : gM} (H : y_HT M) (W : y_W M) : Ok (F_X12_fields_b0 (some 175) l1 M) (y_PI 12384898975531008 M (-2147483648) (2147483647)) := by
  delta F_X12_fields_b0
  refine y_gO H ?_
  refine Ok_b (S_X12_isHouse H) (fun v2 e_v2 => ?_)
  replace e_v2 := q_un e_v2
  refine Ok_i (fun c_1 => ?_) (fun c_1 => ?_)
  · skip
    replace c_1 := i_eq c_1
    rw [L2_0] at c_1
    exact v_PI (S1 := 12384898975531008) (y_rf0 _ _) (S_X12_fields_b19  H W) (by decide) (by decide) (by decide)
  · skip
    replace c_1 := i_ne c_1
    rw [L2_0] at c_1
    refine Ok_b (S_X12_in (lo := 0) (hi := 200) rfl rfl) (fun v3 e_v3 => ?_)
    obtain ⟨e_v3, w_v3⟩ := e_v3
    refine Ok_i (fun c_2 => ?_) (fun c_2 => ?_)
    · skip
      replace c_2 := i_eq c_2
      rw [L2_0] at c_2
      exact v_PI (S1 := 12384898975531008) (y_rf0 _ _) (S_X12_fields_b19  H W) (by decide) (by decide) (by decide)
    · skip
      replace c_2 := i_ne c_2
      rw [L2_0] at c_2
      have x_v3 := w_v3 (by omega)
      refine Ok_b (S_X12_keeps H) (fun M4 zM4 => ?_)
      obtain ⟨HM4, fM4⟩ := zM4
      exact v_PI (S1 := 12384898975531008) (y_fl (S2 := 12384898975531008) (by decide) fM4) (S_X12_fields_L29  g_fuel HM4 (by omega) (by decide) (by decide) (y_Wf (y_fl (S2 := 12384898975531008) (by decide) fM4) (by decide) W) (q_fu (by rw [L2_0]; omega))) (by decide) (by decide) (by decide)
theorem S_X12_fields {l1 : Int32} {M : gM} (H : y_HT M) (W : y_W M) : Ok (F_X12_fields (some 175) l1 M) (y_PI 12384898975531008 M (-2147483648) (2147483647)) := by
  delta F_X12_fields
  exact v_PI (S1 := 12384898975531008) (y_rf0 _ _) (S_X12_fields_b0  H W) (by decide) (by decide) (by decide)
theorem S_X12_falls_b119 {k90 : Option Nat → Int32 → Int32 → Int32 → gM → Option (Int32 × gM)} {m90 : Int} {l2 : Int32} {l4 : Int32} {s0 : Int32} {s1 : Int32} {M : gM} (hk90 : ∀ {l2 : Int32} {l3 : Int32} {l4 : Int32} {M : gM}, y_HT M → (0 ≤ l4.toInt ∧ l4.toInt ≤ 7) → 7 - l4.toInt < m90 → Ok (k90 (some 175) l2 l3 l4 M) (y_PI 10133099161583616 M (-2147483648) (2147483647))) (H : y_HT M) (h_l4 : 0 ≤ l4.toInt ∧ l4.toInt ≤ 6) (h_s1 : 0 ≤ s1.toInt ∧ s1.toInt ≤ 128) (hm90 : 7 - l4.toInt ≤ m90) : Ok (F_X12_falls_b119 k90 (some 175) l2 l4 s0 s1 M) (y_PI 10133099161583616 M (-2147483648) (2147483647)) := by
  delta F_X12_falls_b119
  have a_1 := i_addc (x := l4) (c := 1) L2_1 (by omega) (by omega)
  exact v_PI (S1 := 10133099161583616) (y_rf0 _ _) (hk90 H (by omega) (by omega)) (by decide) (by decide) (by decide)
set_option maxHeartbeats 1000000 in
theorem S_X12_falls_b90 {k90 : Option Nat → Int32 → Int32 → Int32 → gM → Option (Int32 × gM)} {m90 : Int} {l2 : Int32} {l3 : Int32} {l4 : Int32} {M : gM} (hk90 : ∀ {l2 : Int32} {l3 : Int32} {l4 : Int32} {M : gM}, y_HT M → (0 ≤ l4.toInt ∧ l4.toInt ≤ 7) → 7 - l4.toInt < m90 → Ok (k90 (some 175) l2 l3 l4 M) (y_PI 10133099161583616 M (-2147483648) (2147483647))) (H : y_HT M) (h_l4 : 0 ≤ l4.toInt ∧ l4.toInt ≤ 7) (hm90 : 7 - l4.toInt ≤ m90) : Ok (F_X12_falls_b90 k90 (some 175) l2 l3 l4 M) (y_PI 10133099161583616 M (-2147483648) (2147483647)) := by
  delta F_X12_falls_b90
  refine y_gR (w := 185) H rfl (by decide) ?_
  refine y_aIr (lo := 0) (hi := 7) H (i := 185) (n := 157) rfl (by decide) (by decide) (by decide) rfl (fun v2 q_v2 e_v2 => ?_)
  refine Ok_i (fun c_1 => ?_) (fun c_1 => ?_)
  · skip
    replace c_1 := i_le c_1
    refine y_gO H ?_
    refine Ok_b (S_X12_laysBack H) (fun M4 zM4 => ?_)
    obtain ⟨HM4, fM4⟩ := zM4
    exact z_PI (i_rng _) HM4 (y_fl (S2 := 10133099161583616) (by decide) fM4)
  · skip
    replace c_1 := i_nle c_1
    refine y_gO H ?_
    refine Ok_b (S_X12_holdersOf H (by omega)) (fun v6 e_v6 => ?_)
    clear e_v6
    refine Ok_i (fun c_2 => ?_) (fun c_2 => ?_)
    · skip
      replace c_2 := i_eq c_2
      rw [L2_0] at c_2
      exact v_PI (S1 := 10133099161583616) (y_rf0 _ _) (S_X12_falls_b119 hk90 H (by omega) (by decide) (by omega)) (by decide) (by decide) (by decide)
    · skip
      replace c_2 := i_ne c_2
      rw [L2_0] at c_2
      have a_3 := i_shl1 (v := l4) (by omega)
      exact v_PI (S1 := 10133099161583616) (y_rf0 _ _) (S_X12_falls_b119 hk90 H (by omega) (by omega) (by omega)) (by decide) (by decide) (by decide)
theorem S_X12_falls_L90 : ∀ (n : Nat) {l2 : Int32} {l3 : Int32} {l4 : Int32} {M : gM}, y_HT M → (0 ≤ l4.toInt ∧ l4.toInt ≤ 7) → 7 - l4.toInt < (n : Int) → Ok (F_X12_falls_L90 n (some 175) l2 l3 l4 M) (y_PI 10133099161583616 M (-2147483648) (2147483647)) := by
  intro n
  induction n with
  | zero =>
    intro l2 l3 l4 M H h_l4  hm
    exfalso
    omega
  | succ n ih =>
    intro l2 l3 l4 M H h_l4  hm
    exact S_X12_falls_b90 (m90 := 7 - l4.toInt) (fun H h_l4  hmz => ih H h_l4  (by omega)) H h_l4  (Int.le_refl _)
theorem S_X12_falls_b61 {k61 : Option Nat → Int32 → Int32 → Int32 → Int32 → gM → Option (Int32 × gM)} {m61 : Int} {l1 : Int32} {l2 : Int32} {l3 : Int32} {l4 : Int32} {M : gM} (hk61 : ∀ {l1 : Int32} {l2 : Int32} {l3 : Int32} {l4 : Int32} {M : gM}, y_HT M → (0 ≤ l1.toInt ∧ l1.toInt ≤ 6) → (0 ≤ l3.toInt ∧ l3.toInt ≤ 0) → (0 ≤ l4.toInt ∧ l4.toInt ≤ 7) → 7 - l4.toInt < m61 → Ok (k61 (some 175) l1 l2 l3 l4 M) (y_PI 10133099161583616 M (-2147483648) (2147483647))) (H : y_HT M) (h_l1 : 0 ≤ l1.toInt ∧ l1.toInt ≤ 6) (h_l3 : 0 ≤ l3.toInt ∧ l3.toInt ≤ 0) (h_l4 : 0 ≤ l4.toInt ∧ l4.toInt ≤ 7) (hm61 : 7 - l4.toInt ≤ m61) : Ok (F_X12_falls_b61 k61 (some 175) l1 l2 l3 l4 M) (y_PI 10133099161583616 M (-2147483648) (2147483647)) := by
  delta F_X12_falls_b61
  refine y_gR (w := 185) H rfl (by decide) ?_
  refine y_aIr (lo := 0) (hi := 7) H (i := 185) (n := 157) rfl (by decide) (by decide) (by decide) rfl (fun v2 q_v2 e_v2 => ?_)
  refine Ok_i (fun c_1 => ?_) (fun c_1 => ?_)
  · skip
    replace c_1 := i_le c_1
    exact v_PI (S1 := 10133099161583616) (y_rf0 _ _) (S_X12_falls_L90  g_fuel H (by decide) (q_fu (by rw [L2_0]; omega))) (by decide) (by decide) (by decide)
  · skip
    replace c_1 := i_nle c_1
    refine y_gO H ?_
    refine Ok_b (S_X12_knowsNow H h_l1 (by omega)) (fun M4 zM4 => ?_)
    obtain ⟨HM4, fM4⟩ := zM4
    have a_2 := i_addc (x := l4) (c := 1) L2_1 (by omega) (by omega)
    exact v_PI (S1 := 10133099161583616) (y_fl (S2 := 10133099161583616) (by decide) fM4) (hk61 HM4 h_l1 h_l3 (by omega) (by omega)) (by decide) (by decide) (by decide)
theorem S_X12_falls_L61 : ∀ (n : Nat) {l1 : Int32} {l2 : Int32} {l3 : Int32} {l4 : Int32} {M : gM}, y_HT M → (0 ≤ l1.toInt ∧ l1.toInt ≤ 6) → (0 ≤ l3.toInt ∧ l3.toInt ≤ 0) → (0 ≤ l4.toInt ∧ l4.toInt ≤ 7) → 7 - l4.toInt < (n : Int) → Ok (F_X12_falls_L61 n (some 175) l1 l2 l3 l4 M) (y_PI 10133099161583616 M (-2147483648) (2147483647)) := by
  intro n
  induction n with
  | zero =>
    intro l1 l2 l3 l4 M H h_l1 h_l3 h_l4  hm
    exfalso
    omega
  | succ n ih =>
    intro l1 l2 l3 l4 M H h_l1 h_l3 h_l4  hm
    exact S_X12_falls_b61 (m61 := 7 - l4.toInt) (fun H h_l1 h_l3 h_l4  hmz => ih H h_l1 h_l3 h_l4  (by omega)) H h_l1 h_l3 h_l4  (Int.le_refl _)
theorem S_X12_falls_b50 {k21 : Option Nat → Int32 → Int32 → Int32 → Int32 → gM → Option (Int32 × gM)} {m21 : Int} {l1 : Int32} {l3 : Int32} {l4 : Int32} {s0 : Int32} {s1 : Int32} {M : gM} (hk21 : ∀ {l1 : Int32} {l2 : Int32} {l3 : Int32} {l4 : Int32} {M : gM}, y_HT M → (0 ≤ l1.toInt ∧ l1.toInt ≤ 6) → (0 ≤ l3.toInt ∧ l3.toInt ≤ 0) → (0 ≤ l4.toInt ∧ l4.toInt ≤ 7) → 7 - l4.toInt < m21 → Ok (k21 (some 175) l1 l2 l3 l4 M) (y_PI 10133099161583616 M (-2147483648) (2147483647))) (H : y_HT M) (h_l1 : 0 ≤ l1.toInt ∧ l1.toInt ≤ 6) (h_l3 : 0 ≤ l3.toInt ∧ l3.toInt ≤ 0) (h_l4 : 0 ≤ l4.toInt ∧ l4.toInt ≤ 6) (h_s1 : 0 ≤ s1.toInt ∧ s1.toInt ≤ 128) (hm21 : 7 - l4.toInt ≤ m21) : Ok (F_X12_falls_b50 k21 (some 175) l1 l3 l4 s0 s1 M) (y_PI 10133099161583616 M (-2147483648) (2147483647)) := by
  delta F_X12_falls_b50
  have a_1 := i_addc (x := l4) (c := 1) L2_1 (by omega) (by omega)
  exact v_PI (S1 := 10133099161583616) (y_rf0 _ _) (hk21 H h_l1 h_l3 (by omega) (by omega)) (by decide) (by decide) (by decide)
set_option maxHeartbeats 1000000 in
theorem S_X12_falls_b21 {k21 : Option Nat → Int32 → Int32 → Int32 → Int32 → gM → Option (Int32 × gM)} {m21 : Int} {l1 : Int32} {l2 : Int32} {l3 : Int32} {l4 : Int32} {M : gM} (hk21 : ∀ {l1 : Int32} {l2 : Int32} {l3 : Int32} {l4 : Int32} {M : gM}, y_HT M → (0 ≤ l1.toInt ∧ l1.toInt ≤ 6) → (0 ≤ l3.toInt ∧ l3.toInt ≤ 0) → (0 ≤ l4.toInt ∧ l4.toInt ≤ 7) → 7 - l4.toInt < m21 → Ok (k21 (some 175) l1 l2 l3 l4 M) (y_PI 10133099161583616 M (-2147483648) (2147483647))) (H : y_HT M) (h_l1 : 0 ≤ l1.toInt ∧ l1.toInt ≤ 6) (h_l3 : 0 ≤ l3.toInt ∧ l3.toInt ≤ 0) (h_l4 : 0 ≤ l4.toInt ∧ l4.toInt ≤ 7) (hm21 : 7 - l4.toInt ≤ m21) : Ok (F_X12_falls_b21 k21 (some 175) l1 l2 l3 l4 M) (y_PI 10133099161583616 M (-2147483648) (2147483647)) := by
  delta F_X12_falls_b21
  refine y_gR (w := 185) H rfl (by decide) ?_
  refine y_aIr (lo := 0) (hi := 7) H (i := 185) (n := 157) rfl (by decide) (by decide) (by decide) rfl (fun v2 q_v2 e_v2 => ?_)
  refine Ok_i (fun c_1 => ?_) (fun c_1 => ?_)
  · skip
    replace c_1 := i_le c_1
    exact v_PI (S1 := 10133099161583616) (y_rf0 _ _) (S_X12_falls_L61  g_fuel H h_l1 h_l3 (by decide) (q_fu (by rw [L2_0]; omega))) (by decide) (by decide) (by decide)
  · skip
    replace c_1 := i_nle c_1
    refine y_gO H ?_
    refine Ok_b (S_X12_holdersOf H (by omega)) (fun v4 e_v4 => ?_)
    clear e_v4
    refine Ok_i (fun c_2 => ?_) (fun c_2 => ?_)
    · skip
      replace c_2 := i_eq c_2
      rw [L2_0] at c_2
      exact v_PI (S1 := 10133099161583616) (y_rf0 _ _) (S_X12_falls_b50 hk21 H h_l1 h_l3 (by omega) (by decide) (by omega)) (by decide) (by decide) (by decide)
    · skip
      replace c_2 := i_ne c_2
      rw [L2_0] at c_2
      have a_3 := i_shl1 (v := l4) (by omega)
      exact v_PI (S1 := 10133099161583616) (y_rf0 _ _) (S_X12_falls_b50 hk21 H h_l1 h_l3 (by omega) (by omega) (by omega)) (by decide) (by decide) (by decide)
theorem S_X12_falls_L21 : ∀ (n : Nat) {l1 : Int32} {l2 : Int32} {l3 : Int32} {l4 : Int32} {M : gM}, y_HT M → (0 ≤ l1.toInt ∧ l1.toInt ≤ 6) → (0 ≤ l3.toInt ∧ l3.toInt ≤ 0) → (0 ≤ l4.toInt ∧ l4.toInt ≤ 7) → 7 - l4.toInt < (n : Int) → Ok (F_X12_falls_L21 n (some 175) l1 l2 l3 l4 M) (y_PI 10133099161583616 M (-2147483648) (2147483647)) := by
  intro n
  induction n with
  | zero =>
    intro l1 l2 l3 l4 M H h_l1 h_l3 h_l4  hm
    exfalso
    omega
  | succ n ih =>
    intro l1 l2 l3 l4 M H h_l1 h_l3 h_l4  hm
    exact S_X12_falls_b21 (m21 := 7 - l4.toInt) (fun H h_l1 h_l3 h_l4  hmz => ih H h_l1 h_l3 h_l4  (by omega)) H h_l1 h_l3 h_l4  (Int.le_refl _)
theorem S_X12_falls_b0 {l1 : Int32} {M : gM} (H : y_HT M) : Ok (F_X12_falls_b0 (some 175) l1 M) (y_PI 10133099161583616 M (-2147483648) (2147483647)) := by
  delta F_X12_falls_b0
  refine y_gO H ?_
  refine Ok_b (S_X12_isHeir H) (fun v2 e_v2 => ?_)
  obtain ⟨e_v2, w_v2⟩ := e_v2
  refine Ok_i (fun c_1 => ?_) (fun c_1 => ?_)
  · skip
    replace c_1 := i_eq c_1
    rw [L2_0] at c_1
    exact z_PI (i_rng _) H (y_rf0 _ _)
  · skip
    replace c_1 := i_ne c_1
    rw [L2_0] at c_1
    have x_v2 := w_v2 (by omega)
    refine Ok_b (S_X12_keeps H) (fun M3 zM3 => ?_)
    obtain ⟨HM3, fM3⟩ := zM3
    exact v_PI (S1 := 10133099161583616) (y_fl (S2 := 10133099161583616) (by decide) fM3) (S_X12_falls_L21  g_fuel HM3 (by omega) (by decide) (by decide) (q_fu (by rw [L2_0]; omega))) (by decide) (by decide) (by decide)
theorem S_X12_falls {l1 : Int32} {M : gM} (H : y_HT M) : Ok (F_X12_falls (some 175) l1 M) (y_PI 10133099161583616 M (-2147483648) (2147483647)) := by
  delta F_X12_falls
  exact v_PI (S1 := 10133099161583616) (y_rf0 _ _) (S_X12_falls_b0  H) (by decide) (by decide) (by decide)
theorem S_X12_allHolds_b4 {k4 : Option Nat → Int32 → Int32 → Option Int32} {m4 : Int} {l1 : Int32} {l2 : Int32} {M : gM} (hk4 : ∀ {l1 : Int32} {l2 : Int32}, y_HT M → (0 ≤ l2.toInt ∧ l2.toInt ≤ 7) → 7 - l2.toInt < m4 → Ok (k4 (some 175) l1 l2) (q_pi (-2147483648) (2147483647))) (H : y_HT M) (h_l2 : 0 ≤ l2.toInt ∧ l2.toInt ≤ 7) (hm4 : 7 - l2.toInt ≤ m4) : Ok (F_X12_allHolds_b4 k4 M (some 175) l1 l2) (q_pi (-2147483648) (2147483647)) := by
  delta F_X12_allHolds_b4
  refine y_gR (w := 185) H rfl (by decide) ?_
  refine y_aIr (lo := 0) (hi := 7) H (i := 185) (n := 157) rfl (by decide) (by decide) (by decide) rfl (fun v2 q_v2 e_v2 => ?_)
  refine Ok_i (fun c_1 => ?_) (fun c_1 => ?_)
  · skip
    replace c_1 := i_le c_1
    exact r_pi (i_rng _)
  · skip
    replace c_1 := i_nle c_1
    refine y_gO H ?_
    refine Ok_b (S_X12_holdsOf H (by omega)) (fun v4 e_v4 => ?_)
    clear e_v4
    refine Ok_b (S_X12_bits H) (fun v5 e_v5 => ?_)
    replace e_v5 := q_un e_v5
    have a_2 := i_addc (x := l2) (c := 1) L2_1 (by omega) (by omega)
    exact w_pi (hk4 H (by omega) (by omega)) (by decide) (by decide)
theorem S_X12_allHolds_L4 {M : gM} : ∀ (n : Nat) {l1 : Int32} {l2 : Int32}, y_HT M → (0 ≤ l2.toInt ∧ l2.toInt ≤ 7) → 7 - l2.toInt < (n : Int) → Ok (F_X12_allHolds_L4 M n (some 175) l1 l2) (q_pi (-2147483648) (2147483647)) := by
  intro n
  induction n with
  | zero =>
    intro l1 l2 H h_l2  hm
    exfalso
    omega
  | succ n ih =>
    intro l1 l2 H h_l2  hm
    exact S_X12_allHolds_b4 (m4 := 7 - l2.toInt) (fun H h_l2  hmz => ih H h_l2  (by omega)) H h_l2  (Int.le_refl _)
theorem S_X12_allHolds_b0  {M : gM} (H : y_HT M) : Ok (F_X12_allHolds_b0 M (some 175)) (q_pi (-2147483648) (2147483647)) := by
  delta F_X12_allHolds_b0
  exact w_pi (S_X12_allHolds_L4  g_fuel H (by decide) (q_fu (by rw [L2_0]; omega))) (by decide) (by decide)
theorem S_X12_allHolds  {M : gM} (H : y_HT M) : Ok (F_X12_allHolds (some 175) M) (q_pi (-2147483648) (2147483647)) := by
  delta F_X12_allHolds
  exact w_pi (S_X12_allHolds_b0  H) (by decide) (by decide)
theorem S_X12_examine_L34 : ∀ (n : Nat) {l1 l2 l3 l4 : Int32} {M : gM}, y_HT M → M.2.1 185 1 = M.2.1 188 1 → (0 ≤ l2.toInt → 1 ≤ (M.2.1 185 1).toInt) → (0 ≤ l4.toInt ∧ l4.toInt ≤ 49) → 49 - l4.toInt < (n : Int) → Ok (F_X12_examine_L34 n (some 175) l1 l2 l3 l4 M) (y_PI 1125899906842624 M (-2147483648) 2147483647) := by
  intro n
  induction n with
  | zero =>
    intro l1 l2 l3 l4 M H hk hb h hm
    exfalso
    omega
  | succ n ih =>
    intro l1 l2 l3 l4 M H hk hb h hm
    show Ok (F_X12_examine_b34 (F_X12_examine_L34 n) (some 175) l1 l2 l3 l4 M) _
    delta F_X12_examine_b34 F_X12_examine_b98 F_X12_examine_b104
    refine y_gR (w := 185) H rfl (by decide) ?_
    refine y_aIr (lo := 0) (hi := 7) H (i := 185) (n := 157) rfl (by decide) (by decide) (by decide) rfl (fun v2 q2 e2 => ?_)
    refine y_gR (w := 185) H rfl (by decide) ?_
    refine y_aIr (lo := 0) (hi := 7) H (i := 185) (n := 157) rfl (by decide) (by decide) (by decide) rfl (fun v4 q4 e4 => ?_)
    have q4' : M.2.1 185 1 = v4 := q4
    rw [q4'] at hb
    have p0 := Int.mul_nonneg e2.1 e4.1
    have p1 := Int.mul_le_mul e2.2 e4.2 e4.1 (by decide : (0 : Int) ≤ 7)
    have p2 := i_mul (x := v2) (y := v4) (by omega) (by omega)
    refine Ok_i (fun c => ?_) (fun c => ?_)
    · refine Ok_i (fun c2 => ?_) (fun c2 => ?_)
      · replace c2 := i_le c2
        rw [L2_0] at c2
        have h4 := hb c2
        refine Ok_i (fun _ => ?_) (fun _ => ?_)
        · refine y_gR (w := 185) H rfl (by decide) ?_
          refine y_aIs H (i := 185) (n := 157) rfl (by decide) (by decide) (by decide) q4 ?_
          refine Ok_e (i_nz (by omega)) ?_
          exact z_PI (i_rng _) H (y_rf0 _ _)
        · refine Ok_i (fun _ => ?_) (fun _ => ?_)
          · refine y_gR (w := 185) H rfl (by decide) ?_
            refine y_aIs H (i := 185) (n := 157) rfl (by decide) (by decide) (by decide) q4 ?_
            refine Ok_e (i_nz (by omega)) ?_
            exact z_PI (i_rng _) H (y_rf0 _ _)
          · exact z_PI (i_rng _) H (y_rf0 _ _)
      · exact z_PI (i_rng _) H (y_rf0 _ _)
    · replace c := i_nle c
      rw [p2] at c
      have h4 : 1 ≤ v4.toInt := by
        rcases Int.lt_or_le v4.toInt 1 with e | e
        · exfalso
          have e0 : v4.toInt = 0 := by omega
          rw [e0, Int.mul_zero] at c
          omega
        · exact e
      have a1 := i_addc (x := l4) (c := (1 : Int32)) L2_1 (by omega) (by omega)
      refine y_gR (w := 185) H rfl (by decide) ?_
      refine y_aIs H (i := 185) (n := 157) rfl (by decide) (by decide) (by decide) q4 ?_
      refine Ok_e (i_nz (by omega)) ?_
      refine y_gR (w := 185) H rfl (by decide) ?_
      refine y_aIs H (i := 185) (n := 157) rfl (by decide) (by decide) (by decide) q4 ?_
      refine Ok_e (i_nz (by omega)) ?_
      refine y_gO H ?_
      have d1 := i_div (x := l4) (c := v4) (n := v4.toInt) rfl (by omega) h.1
      have d2 := i_modV (x := l4) (c := v4) (by omega) h.1
      have d3 : l4.toInt / v4.toInt < v2.toInt := Int.ediv_lt_of_lt_mul (by omega) c
      have d4 : 0 ≤ l4.toInt / v4.toInt := Int.ediv_nonneg h.1 (by omega)
      refine Ok_b (S_X12_asks H (by omega) (by omega)) (fun y z => ?_)
      obtain ⟨v18, M19⟩ := y
      obtain ⟨e19, H19, f19⟩ := z
      dsimp only at e19 H19 f19
      refine y_gC H19 ?_
      refine Ok_b (S_X12_allHolds H19) (fun v21 _ => ?_)
      refine Ok_b (S_X12_laysBack2 H19) (fun M22 z => ?_)
      obtain ⟨⟨H22, f22⟩, c22⟩ := z
      have F := y_tr f19 f22
      have k22 : M22.2.1 188 1 = M.2.1 188 1 := y_fa (i := 188) F (by decide) (by decide) _
      have k19 : M19.2.1 188 1 = M.2.1 188 1 := y_fa (i := 188) f19 (by decide) (by decide) _
      have s22 : M22.2.1 185 1 = M.2.1 185 1 := by rw [c22 1 (by decide), k19, hk]
      have go : ∀ {b2 b3 : Int32}, Ok (F_X12_examine_L34 n (some 175) l1 b2 b3 (l4 + 1) M22) (y_PI 1125899906842624 M (-2147483648) 2147483647) := by
        intro b2 b3
        exact v_PI (S1 := 1125899906842624) F (ih H22 (by rw [s22, k22, hk]) (fun _ => by rw [s22, q4']; exact h4) (by omega) (by omega)) (by decide) (by decide) (by decide)
      refine Ok_i (fun _ => ?_) (fun _ => ?_)
      · exact go
      · refine Ok_i (fun _ => ?_) (fun _ => ?_)
        · exact go
        · exact go
theorem S_X12_examine {l1 : Int32} {M : gM} (H : y_HT M) : Ok (F_X12_examine (some 175) l1 M) (y_PI 10133099161583616 M (-2147483648) 2147483647) := by
  delta F_X12_examine F_X12_examine_b0 F_X12_examine_b19
  refine y_gO H ?_
  refine Ok_b (S_X12_isHouse H) (fun v2 _ => ?_)
  refine Ok_i (fun _ => ?_) (fun _ => ?_)
  · exact z_PI (i_rng _) H (y_rf0 _ _)
  · refine Ok_b (S_X12_in (lo := 0) (hi := 2) rfl rfl) (fun v3 _ => ?_)
    refine Ok_i (fun _ => ?_) (fun _ => ?_)
    · exact z_PI (i_rng _) H (y_rf0 _ _)
    · refine Ok_b (S_X12_keeps2 H) (fun M4 z => ?_)
      obtain ⟨⟨H4, f4⟩, c4⟩ := z
      have s4 : M4.2.1 185 1 = M.2.1 185 1 := y_fa (i := 185) f4 (by decide) (by decide) _
      exact v_PI (S1 := 1125899906842624) (y_fl (S2 := 10133099161583616) (by decide) f4) (S_X12_examine_L34 g_fuel H4 (by rw [s4, c4 1 (by decide)]) (fun e => absurd e (by decide)) (by decide) (by decide)) (by decide) (by decide) (by decide)
theorem S_X12_likeliest_b18  {M : gM} (H : y_HT M) : Ok (F_X12_likeliest_b18 M) (q_pi (-2147483648) (2147483647)) := by
  delta F_X12_likeliest_b18
  exact r_pi (i_rng _)
theorem S_X12_likeliest_b110 {k30 : Option Nat → Int32 → Int32 → Int32 → Int32 → Int32 → Option Int32} {m30 : Int} {l1 : Int32} {l2 : Int32} {l3 : Int32} {l4 : Int32} {l5 : Int32} {M : gM} (hk30 : ∀ {l1 : Int32} {l2 : Int32} {l3 : Int32} {l4 : Int32} {l5 : Int32}, y_HT M → (0 ≤ l1.toInt ∧ l1.toInt ≤ 6) → (0 ≤ l2.toInt ∧ l2.toInt ≤ 1) → (-2 ≤ l3.toInt ∧ l3.toInt ≤ 9) → (-2 ≤ l4.toInt) → (0 ≤ l5.toInt ∧ l5.toInt ≤ 10) → 10 - l5.toInt < m30 → Ok (k30 (some 175) l1 l2 l3 l4 l5) (q_pi (-2147483648) (2147483647))) (H : y_HT M) (h_l1 : 0 ≤ l1.toInt ∧ l1.toInt ≤ 6) (h_l2 : 0 ≤ l2.toInt ∧ l2.toInt ≤ 1) (h_l3 : -2 ≤ l3.toInt ∧ l3.toInt ≤ 9) (h_l4 : -2 ≤ l4.toInt) (h_l5 : 0 ≤ l5.toInt ∧ l5.toInt ≤ 9) (hm30 : 10 - l5.toInt ≤ m30) : Ok (F_X12_likeliest_b110 k30 M (some 175) l1 l2 l3 l4 l5) (q_pi (-2147483648) (2147483647)) := by
  delta F_X12_likeliest_b110
  have a_1 := i_addc (x := l5) (c := 1) L2_1 (by omega) (by omega)
  exact w_pi (hk30 H h_l1 h_l2 h_l3 (by omega) (by omega) (by omega)) (by decide) (by decide)
theorem S_X12_likeliest_b79 {k30 : Option Nat → Int32 → Int32 → Int32 → Int32 → Int32 → Option Int32} {m30 : Int} {k43 : Option Nat → Int32 → Int32 → Int32 → Int32 → Int32 → Int32 → Int32 → Option Int32} {m43 : Int} {l1 : Int32} {l2 : Int32} {l3 : Int32} {l4 : Int32} {l5 : Int32} {l7 : Int32} {s0 : Int32} {s1 : Int32} {M : gM} (hk30 : ∀ {l1 : Int32} {l2 : Int32} {l3 : Int32} {l4 : Int32} {l5 : Int32}, y_HT M → (0 ≤ l1.toInt ∧ l1.toInt ≤ 6) → (0 ≤ l2.toInt ∧ l2.toInt ≤ 1) → (-2 ≤ l3.toInt ∧ l3.toInt ≤ 9) → (-2 ≤ l4.toInt) → (0 ≤ l5.toInt ∧ l5.toInt ≤ 10) → 10 - l5.toInt < m30 → Ok (k30 (some 175) l1 l2 l3 l4 l5) (q_pi (-2147483648) (2147483647))) (hk43 : ∀ {l1 : Int32} {l2 : Int32} {l3 : Int32} {l4 : Int32} {l5 : Int32} {l6 : Int32} {l7 : Int32}, y_HT M → (0 ≤ l1.toInt ∧ l1.toInt ≤ 6) → (0 ≤ l2.toInt ∧ l2.toInt ≤ 1) → (-2 ≤ l3.toInt ∧ l3.toInt ≤ 9) → (-2 ≤ l4.toInt) → (0 ≤ l5.toInt ∧ l5.toInt ≤ 9) → (0 ≤ l7.toInt ∧ l7.toInt ≤ 7) → 10 - l5.toInt ≤ m30 → 7 - l7.toInt < m43 → Ok (k43 (some 175) l1 l2 l3 l4 l5 l6 l7) (q_pi (-2147483648) (2147483647))) (H : y_HT M) (h_l1 : 0 ≤ l1.toInt ∧ l1.toInt ≤ 6) (h_l2 : 0 ≤ l2.toInt ∧ l2.toInt ≤ 1) (h_l3 : -2 ≤ l3.toInt ∧ l3.toInt ≤ 9) (h_l4 : -2 ≤ l4.toInt) (h_l5 : 0 ≤ l5.toInt ∧ l5.toInt ≤ 9) (h_l7 : 0 ≤ l7.toInt ∧ l7.toInt ≤ 6) (hm30 : 10 - l5.toInt ≤ m30) (hm43 : 7 - l7.toInt ≤ m43) : Ok (F_X12_likeliest_b79 k30 k43 M (some 175) l1 l2 l3 l4 l5 l7 s0 s1) (q_pi (-2147483648) (2147483647)) := by
  delta F_X12_likeliest_b79
  have a_1 := i_addc (x := l7) (c := 1) L2_1 (by omega) (by omega)
  exact w_pi (hk43 H h_l1 h_l2 h_l3 (by omega) h_l5 (by omega) (by omega) (by omega)) (by decide) (by decide)
set_option maxHeartbeats 1000000 in
theorem S_X12_likeliest_b43 {k30 : Option Nat → Int32 → Int32 → Int32 → Int32 → Int32 → Option Int32} {m30 : Int} {k43 : Option Nat → Int32 → Int32 → Int32 → Int32 → Int32 → Int32 → Int32 → Option Int32} {m43 : Int} {l1 : Int32} {l2 : Int32} {l3 : Int32} {l4 : Int32} {l5 : Int32} {l6 : Int32} {l7 : Int32} {M : gM} (hk30 : ∀ {l1 : Int32} {l2 : Int32} {l3 : Int32} {l4 : Int32} {l5 : Int32}, y_HT M → (0 ≤ l1.toInt ∧ l1.toInt ≤ 6) → (0 ≤ l2.toInt ∧ l2.toInt ≤ 1) → (-2 ≤ l3.toInt ∧ l3.toInt ≤ 9) → (-2 ≤ l4.toInt) → (0 ≤ l5.toInt ∧ l5.toInt ≤ 10) → 10 - l5.toInt < m30 → Ok (k30 (some 175) l1 l2 l3 l4 l5) (q_pi (-2147483648) (2147483647))) (hk43 : ∀ {l1 : Int32} {l2 : Int32} {l3 : Int32} {l4 : Int32} {l5 : Int32} {l6 : Int32} {l7 : Int32}, y_HT M → (0 ≤ l1.toInt ∧ l1.toInt ≤ 6) → (0 ≤ l2.toInt ∧ l2.toInt ≤ 1) → (-2 ≤ l3.toInt ∧ l3.toInt ≤ 9) → (-2 ≤ l4.toInt) → (0 ≤ l5.toInt ∧ l5.toInt ≤ 9) → (0 ≤ l7.toInt ∧ l7.toInt ≤ 7) → 10 - l5.toInt ≤ m30 → 7 - l7.toInt < m43 → Ok (k43 (some 175) l1 l2 l3 l4 l5 l6 l7) (q_pi (-2147483648) (2147483647))) (H : y_HT M) (h_l1 : 0 ≤ l1.toInt ∧ l1.toInt ≤ 6) (h_l2 : 0 ≤ l2.toInt ∧ l2.toInt ≤ 1) (h_l3 : -2 ≤ l3.toInt ∧ l3.toInt ≤ 9) (h_l4 : -2 ≤ l4.toInt) (h_l5 : 0 ≤ l5.toInt ∧ l5.toInt ≤ 9) (h_l7 : 0 ≤ l7.toInt ∧ l7.toInt ≤ 7) (hm30 : 10 - l5.toInt ≤ m30) (hm43 : 7 - l7.toInt ≤ m43) : Ok (F_X12_likeliest_b43 k30 k43 M (some 175) l1 l2 l3 l4 l5 l6 l7) (q_pi (-2147483648) (2147483647)) := by
  delta F_X12_likeliest_b43
  refine y_gR (w := 185) H rfl (by decide) ?_
  refine y_aIr (lo := 0) (hi := 7) H (i := 185) (n := 157) rfl (by decide) (by decide) (by decide) rfl (fun v2 q_v2 e_v2 => ?_)
  refine Ok_i (fun c_1 => ?_) (fun c_1 => ?_)
  · skip
    replace c_1 := i_le c_1
    refine Ok_i (fun c_2 => ?_) (fun c_2 => ?_)
    · skip
      replace c_2 := i_eq c_2
      rw [L2_0] at c_2
      exact w_pi (S_X12_likeliest_b110 hk30 H h_l1 h_l2 h_l3 (by omega) h_l5 (by omega)) (by decide) (by decide)
    · skip
      replace c_2 := i_ne c_2
      rw [L2_0] at c_2
      refine Ok_i (fun c_3 => ?_) (fun c_3 => ?_)
      · skip
        replace c_3 := i_lt c_3
        exact w_pi (S_X12_likeliest_b110 hk30 H h_l1 h_l2 (by omega) (by omega) h_l5 (by omega)) (by decide) (by decide)
      · skip
        replace c_3 := i_nlt c_3
        exact w_pi (S_X12_likeliest_b110 hk30 H h_l1 h_l2 h_l3 (by omega) h_l5 (by omega)) (by decide) (by decide)
  · skip
    replace c_1 := i_nle c_1
    refine y_gO H ?_
    refine Ok_b (S_X12_valueOf H (by omega) h_l1) (fun v4 e_v4 => ?_)
    clear e_v4
    refine Ok_i (fun c_4 => ?_) (fun c_4 => ?_)
    · skip
      replace c_4 := i_eq c_4
      refine Ok_b (S_X12_strengthOf H (by omega) h_l1) (fun v5 e_v5 => ?_)
      clear e_v5
      exact w_pi (S_X12_likeliest_b79 hk30 hk43 H h_l1 h_l2 h_l3 (by omega) h_l5 (by omega) (by omega) (by omega)) (by decide) (by decide)
    · skip
      replace c_4 := i_ne c_4
      exact w_pi (S_X12_likeliest_b79 hk30 hk43 H h_l1 h_l2 h_l3 (by omega) h_l5 (by omega) (by omega) (by omega)) (by decide) (by decide)
theorem S_X12_likeliest_L43 {k30 : Option Nat → Int32 → Int32 → Int32 → Int32 → Int32 → Option Int32} {m30 : Int} {M : gM} (hk30 : ∀ {l1 : Int32} {l2 : Int32} {l3 : Int32} {l4 : Int32} {l5 : Int32}, y_HT M → (0 ≤ l1.toInt ∧ l1.toInt ≤ 6) → (0 ≤ l2.toInt ∧ l2.toInt ≤ 1) → (-2 ≤ l3.toInt ∧ l3.toInt ≤ 9) → (-2 ≤ l4.toInt) → (0 ≤ l5.toInt ∧ l5.toInt ≤ 10) → 10 - l5.toInt < m30 → Ok (k30 (some 175) l1 l2 l3 l4 l5) (q_pi (-2147483648) (2147483647))) : ∀ (n : Nat) {l1 : Int32} {l2 : Int32} {l3 : Int32} {l4 : Int32} {l5 : Int32} {l6 : Int32} {l7 : Int32}, y_HT M → (0 ≤ l1.toInt ∧ l1.toInt ≤ 6) → (0 ≤ l2.toInt ∧ l2.toInt ≤ 1) → (-2 ≤ l3.toInt ∧ l3.toInt ≤ 9) → (-2 ≤ l4.toInt) → (0 ≤ l5.toInt ∧ l5.toInt ≤ 9) → (0 ≤ l7.toInt ∧ l7.toInt ≤ 7) → 10 - l5.toInt ≤ m30 → 7 - l7.toInt < (n : Int) → Ok (F_X12_likeliest_L43 k30 M n (some 175) l1 l2 l3 l4 l5 l6 l7) (q_pi (-2147483648) (2147483647)) := by
  intro n
  induction n with
  | zero =>
    intro l1 l2 l3 l4 l5 l6 l7 H h_l1 h_l2 h_l3 h_l4 h_l5 h_l7 hm30 hm
    exfalso
    omega
  | succ n ih =>
    intro l1 l2 l3 l4 l5 l6 l7 H h_l1 h_l2 h_l3 h_l4 h_l5 h_l7 hm30 hm
    exact S_X12_likeliest_b43 (m43 := 7 - l7.toInt) hk30 (fun H h_l1 h_l2 h_l3 h_l4 h_l5 h_l7 hm30 hmz => ih H h_l1 h_l2 h_l3 h_l4 h_l5 h_l7 hm30 (by omega)) H h_l1 h_l2 h_l3 h_l4 h_l5 h_l7 hm30 (Int.le_refl _)
theorem S_X12_likeliest_b30 {k30 : Option Nat → Int32 → Int32 → Int32 → Int32 → Int32 → Option Int32} {m30 : Int} {l1 : Int32} {l2 : Int32} {l3 : Int32} {l4 : Int32} {l5 : Int32} {M : gM} (hk30 : ∀ {l1 : Int32} {l2 : Int32} {l3 : Int32} {l4 : Int32} {l5 : Int32}, y_HT M → (0 ≤ l1.toInt ∧ l1.toInt ≤ 6) → (0 ≤ l2.toInt ∧ l2.toInt ≤ 1) → (-2 ≤ l3.toInt ∧ l3.toInt ≤ 9) → (-2 ≤ l4.toInt) → (0 ≤ l5.toInt ∧ l5.toInt ≤ 10) → 10 - l5.toInt < m30 → Ok (k30 (some 175) l1 l2 l3 l4 l5) (q_pi (-2147483648) (2147483647))) (H : y_HT M) (h_l1 : 0 ≤ l1.toInt ∧ l1.toInt ≤ 6) (h_l2 : 0 ≤ l2.toInt ∧ l2.toInt ≤ 1) (h_l3 : -2 ≤ l3.toInt ∧ l3.toInt ≤ 9) (h_l4 : -2 ≤ l4.toInt) (h_l5 : 0 ≤ l5.toInt ∧ l5.toInt ≤ 10) (hm30 : 10 - l5.toInt ≤ m30) : Ok (F_X12_likeliest_b30 k30 M (some 175) l1 l2 l3 l4 l5) (q_pi (-2147483648) (2147483647)) := by
  delta F_X12_likeliest_b30
  refine Ok_i (fun c_1 => ?_) (fun c_1 => ?_)
  · skip
    replace c_1 := i_le c_1
    rw [L2_10] at c_1
    refine Ok_i (fun c_2 => ?_) (fun c_2 => ?_)
    · skip
      replace c_2 := i_eq c_2
      rw [L2_0] at c_2
      exact r_pi (i_rng _)
    · skip
      replace c_2 := i_ne c_2
      rw [L2_0] at c_2
      exact r_pi (i_rng _)
  · skip
    replace c_1 := i_nle c_1
    rw [L2_10] at c_1
    exact w_pi (S_X12_likeliest_L43 hk30 g_fuel H h_l1 h_l2 h_l3 (by omega) (by omega) (by decide) (by omega) (q_fu (by rw [L2_0]; omega))) (by decide) (by decide)
theorem S_X12_likeliest_L30 {M : gM} : ∀ (n : Nat) {l1 : Int32} {l2 : Int32} {l3 : Int32} {l4 : Int32} {l5 : Int32}, y_HT M → (0 ≤ l1.toInt ∧ l1.toInt ≤ 6) → (0 ≤ l2.toInt ∧ l2.toInt ≤ 1) → (-2 ≤ l3.toInt ∧ l3.toInt ≤ 9) → (-2 ≤ l4.toInt) → (0 ≤ l5.toInt ∧ l5.toInt ≤ 10) → 10 - l5.toInt < (n : Int) → Ok (F_X12_likeliest_L30 M n (some 175) l1 l2 l3 l4 l5) (q_pi (-2147483648) (2147483647)) := by
  intro n
  induction n with
  | zero =>
    intro l1 l2 l3 l4 l5 H h_l1 h_l2 h_l3 h_l4 h_l5  hm
    exfalso
    omega
  | succ n ih =>
    intro l1 l2 l3 l4 l5 H h_l1 h_l2 h_l3 h_l4 h_l5  hm
    exact S_X12_likeliest_b30 (m30 := 10 - l5.toInt) (fun H h_l1 h_l2 h_l3 h_l4 h_l5  hmz => ih H h_l1 h_l2 h_l3 h_l4 h_l5  (by omega)) H h_l1 h_l2 h_l3 h_l4 h_l5  (Int.le_refl _)
set_option maxHeartbeats 1000000 in
theorem S_X12_likeliest_b0 {l1 : Int32} {l2 : Int32} {M : gM} (H : y_HT M) : Ok (F_X12_likeliest_b0 M (some 175) l1 l2) (q_pi (-2147483648) (2147483647)) := by
  delta F_X12_likeliest_b0
  refine y_gO H ?_
  refine Ok_b (S_X12_isThing H) (fun v2 e_v2 => ?_)
  obtain ⟨e_v2, w_v2⟩ := e_v2
  refine Ok_i (fun c_1 => ?_) (fun c_1 => ?_)
  · skip
    replace c_1 := i_eq c_1
    rw [L2_0] at c_1
    exact w_pi (S_X12_likeliest_b18  H) (by decide) (by decide)
  · skip
    replace c_1 := i_ne c_1
    rw [L2_0] at c_1
    have x_v2 := w_v2 (by omega)
    refine Ok_b (S_X12_in (lo := 0) (hi := 1) rfl rfl) (fun v3 e_v3 => ?_)
    obtain ⟨e_v3, w_v3⟩ := e_v3
    refine Ok_i (fun c_2 => ?_) (fun c_2 => ?_)
    · skip
      replace c_2 := i_eq c_2
      rw [L2_0] at c_2
      exact w_pi (S_X12_likeliest_b18  H) (by decide) (by decide)
    · skip
      replace c_2 := i_ne c_2
      rw [L2_0] at c_2
      have x_v3 := w_v3 (by omega)
      exact w_pi (S_X12_likeliest_L30  g_fuel H (by omega) (by omega) (by decide) (by decide) (by decide) (q_fu (by rw [L2_0]; omega))) (by decide) (by decide)
theorem S_X12_likeliest {l1 : Int32} {l2 : Int32} {M : gM} (H : y_HT M) : Ok (F_X12_likeliest (some 175) l1 l2 M) (q_pi (-2147483648) (2147483647)) := by
  delta F_X12_likeliest
  exact w_pi (S_X12_likeliest_b0  H) (by decide) (by decide)
theorem S_X12_areParted_b110 {k2 : Option Nat → Int32 → Int32 → Int32 → Option Int32} {m2 : Int} {k15 : Option Nat → Int32 → Int32 → Int32 → Int32 → Option Int32} {m15 : Int} {l1 : Int32} {l2 : Int32} {l3 : Int32} {l4 : Int32} {M : gM} (hk2 : ∀ {l1 : Int32} {l2 : Int32} {l3 : Int32}, y_HT M → (0 ≤ l1.toInt ∧ l1.toInt ≤ 127) → (0 ≤ l2.toInt ∧ l2.toInt ≤ 128) → (0 ≤ l3.toInt ∧ l3.toInt ≤ 7) → 7 - l3.toInt < m2 → Ok (k2 (some 175) l1 l2 l3) (q_pi (0) (1))) (hk15 : ∀ {l1 : Int32} {l2 : Int32} {l3 : Int32} {l4 : Int32}, y_HT M → (0 ≤ l1.toInt ∧ l1.toInt ≤ 127) → (0 ≤ l2.toInt ∧ l2.toInt ≤ 128) → (0 ≤ l3.toInt ∧ l3.toInt ≤ 6) → (0 ≤ l4.toInt ∧ l4.toInt ≤ 6) → 7 - l3.toInt ≤ m2 → 6 - l4.toInt < m15 → Ok (k15 (some 175) l1 l2 l3 l4) (q_pi (0) (1))) (H : y_HT M) (h_l1 : 0 ≤ l1.toInt ∧ l1.toInt ≤ 127) (h_l2 : 0 ≤ l2.toInt ∧ l2.toInt ≤ 128) (h_l3 : 1 ≤ l3.toInt ∧ l3.toInt ≤ 6) (h_l4 : 0 ≤ l4.toInt ∧ l4.toInt ≤ 5) (hm2 : 7 - l3.toInt ≤ m2) (hm15 : 6 - l4.toInt ≤ m15) : Ok (F_X12_areParted_b110 k2 k15 M (some 175) l1 l2 l3 l4) (q_pi (0) (1)) := by
  delta F_X12_areParted_b110
  have a_1 := i_addc (x := l4) (c := 1) L2_1 (by omega) (by omega)
  exact w_pi (hk15 H h_l1 h_l2 (by omega) (by omega) (by omega) (by omega)) (by decide) (by decide)
theorem S_X12_areParted_b95 {k2 : Option Nat → Int32 → Int32 → Int32 → Option Int32} {m2 : Int} {k15 : Option Nat → Int32 → Int32 → Int32 → Int32 → Option Int32} {m15 : Int} {k47 : Option Nat → Int32 → Int32 → Int32 → Int32 → Int32 → Int32 → Option Int32} {m47 : Int} {l1 : Int32} {l2 : Int32} {l3 : Int32} {l4 : Int32} {l6 : Int32} {s0 : Int32} {M : gM} (hk2 : ∀ {l1 : Int32} {l2 : Int32} {l3 : Int32}, y_HT M → (0 ≤ l1.toInt ∧ l1.toInt ≤ 127) → (0 ≤ l2.toInt ∧ l2.toInt ≤ 128) → (0 ≤ l3.toInt ∧ l3.toInt ≤ 7) → 7 - l3.toInt < m2 → Ok (k2 (some 175) l1 l2 l3) (q_pi (0) (1))) (hk15 : ∀ {l1 : Int32} {l2 : Int32} {l3 : Int32} {l4 : Int32}, y_HT M → (0 ≤ l1.toInt ∧ l1.toInt ≤ 127) → (0 ≤ l2.toInt ∧ l2.toInt ≤ 128) → (0 ≤ l3.toInt ∧ l3.toInt ≤ 6) → (0 ≤ l4.toInt ∧ l4.toInt ≤ 6) → 7 - l3.toInt ≤ m2 → 6 - l4.toInt < m15 → Ok (k15 (some 175) l1 l2 l3 l4) (q_pi (0) (1))) (hk47 : ∀ {l1 : Int32} {l2 : Int32} {l3 : Int32} {l4 : Int32} {l5 : Int32} {l6 : Int32}, y_HT M → (0 ≤ l1.toInt ∧ l1.toInt ≤ 127) → (0 ≤ l2.toInt ∧ l2.toInt ≤ 128) → (1 ≤ l3.toInt ∧ l3.toInt ≤ 6) → (0 ≤ l4.toInt ∧ l4.toInt ≤ 5) → (0 ≤ l5.toInt ∧ l5.toInt ≤ 1) → (0 ≤ l6.toInt ∧ l6.toInt ≤ 7) → 7 - l3.toInt ≤ m2 → 6 - l4.toInt ≤ m15 → 7 - l6.toInt < m47 → Ok (k47 (some 175) l1 l2 l3 l4 l5 l6) (q_pi (0) (1))) (H : y_HT M) (h_l1 : 0 ≤ l1.toInt ∧ l1.toInt ≤ 127) (h_l2 : 0 ≤ l2.toInt ∧ l2.toInt ≤ 128) (h_l3 : 1 ≤ l3.toInt ∧ l3.toInt ≤ 6) (h_l4 : 0 ≤ l4.toInt ∧ l4.toInt ≤ 5) (h_l6 : 0 ≤ l6.toInt ∧ l6.toInt ≤ 6) (h_s0 : 0 ≤ s0.toInt ∧ s0.toInt ≤ 1) (hm2 : 7 - l3.toInt ≤ m2) (hm15 : 6 - l4.toInt ≤ m15) (hm47 : 7 - l6.toInt ≤ m47) : Ok (F_X12_areParted_b95 k2 k15 k47 M (some 175) l1 l2 l3 l4 l6 s0) (q_pi (0) (1)) := by
  delta F_X12_areParted_b95
  have a_1 := i_addc (x := l6) (c := 1) L2_1 (by omega) (by omega)
  exact w_pi (hk47 H h_l1 h_l2 h_l3 h_l4 h_s0 (by omega) (by omega) (by omega) (by omega)) (by decide) (by decide)
theorem S_X12_areParted_b90 {k2 : Option Nat → Int32 → Int32 → Int32 → Option Int32} {m2 : Int} {k15 : Option Nat → Int32 → Int32 → Int32 → Int32 → Option Int32} {m15 : Int} {k47 : Option Nat → Int32 → Int32 → Int32 → Int32 → Int32 → Int32 → Option Int32} {m47 : Int} {l1 : Int32} {l2 : Int32} {l3 : Int32} {l4 : Int32} {l6 : Int32} {M : gM} (hk2 : ∀ {l1 : Int32} {l2 : Int32} {l3 : Int32}, y_HT M → (0 ≤ l1.toInt ∧ l1.toInt ≤ 127) → (0 ≤ l2.toInt ∧ l2.toInt ≤ 128) → (0 ≤ l3.toInt ∧ l3.toInt ≤ 7) → 7 - l3.toInt < m2 → Ok (k2 (some 175) l1 l2 l3) (q_pi (0) (1))) (hk15 : ∀ {l1 : Int32} {l2 : Int32} {l3 : Int32} {l4 : Int32}, y_HT M → (0 ≤ l1.toInt ∧ l1.toInt ≤ 127) → (0 ≤ l2.toInt ∧ l2.toInt ≤ 128) → (0 ≤ l3.toInt ∧ l3.toInt ≤ 6) → (0 ≤ l4.toInt ∧ l4.toInt ≤ 6) → 7 - l3.toInt ≤ m2 → 6 - l4.toInt < m15 → Ok (k15 (some 175) l1 l2 l3 l4) (q_pi (0) (1))) (hk47 : ∀ {l1 : Int32} {l2 : Int32} {l3 : Int32} {l4 : Int32} {l5 : Int32} {l6 : Int32}, y_HT M → (0 ≤ l1.toInt ∧ l1.toInt ≤ 127) → (0 ≤ l2.toInt ∧ l2.toInt ≤ 128) → (1 ≤ l3.toInt ∧ l3.toInt ≤ 6) → (0 ≤ l4.toInt ∧ l4.toInt ≤ 5) → (0 ≤ l5.toInt ∧ l5.toInt ≤ 1) → (0 ≤ l6.toInt ∧ l6.toInt ≤ 7) → 7 - l3.toInt ≤ m2 → 6 - l4.toInt ≤ m15 → 7 - l6.toInt < m47 → Ok (k47 (some 175) l1 l2 l3 l4 l5 l6) (q_pi (0) (1))) (H : y_HT M) (h_l1 : 0 ≤ l1.toInt ∧ l1.toInt ≤ 127) (h_l2 : 0 ≤ l2.toInt ∧ l2.toInt ≤ 128) (h_l3 : 1 ≤ l3.toInt ∧ l3.toInt ≤ 6) (h_l4 : 0 ≤ l4.toInt ∧ l4.toInt ≤ 5) (h_l6 : 0 ≤ l6.toInt ∧ l6.toInt ≤ 6) (hm2 : 7 - l3.toInt ≤ m2) (hm15 : 6 - l4.toInt ≤ m15) (hm47 : 7 - l6.toInt ≤ m47) : Ok (F_X12_areParted_b90 k2 k15 k47 M (some 175) l1 l2 l3 l4 l6) (q_pi (0) (1)) := by
  delta F_X12_areParted_b90
  exact w_pi (S_X12_areParted_b95 hk2 hk15 hk47 H h_l1 h_l2 h_l3 h_l4 h_l6 (by decide) (by omega) (by omega) (by omega)) (by decide) (by decide)
theorem S_X12_areParted_b94 {k2 : Option Nat → Int32 → Int32 → Int32 → Option Int32} {m2 : Int} {k15 : Option Nat → Int32 → Int32 → Int32 → Int32 → Option Int32} {m15 : Int} {k47 : Option Nat → Int32 → Int32 → Int32 → Int32 → Int32 → Int32 → Option Int32} {m47 : Int} {l1 : Int32} {l2 : Int32} {l3 : Int32} {l4 : Int32} {l6 : Int32} {M : gM} (hk2 : ∀ {l1 : Int32} {l2 : Int32} {l3 : Int32}, y_HT M → (0 ≤ l1.toInt ∧ l1.toInt ≤ 127) → (0 ≤ l2.toInt ∧ l2.toInt ≤ 128) → (0 ≤ l3.toInt ∧ l3.toInt ≤ 7) → 7 - l3.toInt < m2 → Ok (k2 (some 175) l1 l2 l3) (q_pi (0) (1))) (hk15 : ∀ {l1 : Int32} {l2 : Int32} {l3 : Int32} {l4 : Int32}, y_HT M → (0 ≤ l1.toInt ∧ l1.toInt ≤ 127) → (0 ≤ l2.toInt ∧ l2.toInt ≤ 128) → (0 ≤ l3.toInt ∧ l3.toInt ≤ 6) → (0 ≤ l4.toInt ∧ l4.toInt ≤ 6) → 7 - l3.toInt ≤ m2 → 6 - l4.toInt < m15 → Ok (k15 (some 175) l1 l2 l3 l4) (q_pi (0) (1))) (hk47 : ∀ {l1 : Int32} {l2 : Int32} {l3 : Int32} {l4 : Int32} {l5 : Int32} {l6 : Int32}, y_HT M → (0 ≤ l1.toInt ∧ l1.toInt ≤ 127) → (0 ≤ l2.toInt ∧ l2.toInt ≤ 128) → (1 ≤ l3.toInt ∧ l3.toInt ≤ 6) → (0 ≤ l4.toInt ∧ l4.toInt ≤ 5) → (0 ≤ l5.toInt ∧ l5.toInt ≤ 1) → (0 ≤ l6.toInt ∧ l6.toInt ≤ 7) → 7 - l3.toInt ≤ m2 → 6 - l4.toInt ≤ m15 → 7 - l6.toInt < m47 → Ok (k47 (some 175) l1 l2 l3 l4 l5 l6) (q_pi (0) (1))) (H : y_HT M) (h_l1 : 0 ≤ l1.toInt ∧ l1.toInt ≤ 127) (h_l2 : 0 ≤ l2.toInt ∧ l2.toInt ≤ 128) (h_l3 : 1 ≤ l3.toInt ∧ l3.toInt ≤ 6) (h_l4 : 0 ≤ l4.toInt ∧ l4.toInt ≤ 5) (h_l6 : 0 ≤ l6.toInt ∧ l6.toInt ≤ 6) (hm2 : 7 - l3.toInt ≤ m2) (hm15 : 6 - l4.toInt ≤ m15) (hm47 : 7 - l6.toInt ≤ m47) : Ok (F_X12_areParted_b94 k2 k15 k47 M (some 175) l1 l2 l3 l4 l6) (q_pi (0) (1)) := by
  delta F_X12_areParted_b94
  exact w_pi (S_X12_areParted_b95 hk2 hk15 hk47 H h_l1 h_l2 h_l3 h_l4 h_l6 (by decide) (by omega) (by omega) (by omega)) (by decide) (by decide)
set_option maxHeartbeats 1000000 in
theorem S_X12_areParted_b47 {k2 : Option Nat → Int32 → Int32 → Int32 → Option Int32} {m2 : Int} {k15 : Option Nat → Int32 → Int32 → Int32 → Int32 → Option Int32} {m15 : Int} {k47 : Option Nat → Int32 → Int32 → Int32 → Int32 → Int32 → Int32 → Option Int32} {m47 : Int} {l1 : Int32} {l2 : Int32} {l3 : Int32} {l4 : Int32} {l5 : Int32} {l6 : Int32} {M : gM} (hk2 : ∀ {l1 : Int32} {l2 : Int32} {l3 : Int32}, y_HT M → (0 ≤ l1.toInt ∧ l1.toInt ≤ 127) → (0 ≤ l2.toInt ∧ l2.toInt ≤ 128) → (0 ≤ l3.toInt ∧ l3.toInt ≤ 7) → 7 - l3.toInt < m2 → Ok (k2 (some 175) l1 l2 l3) (q_pi (0) (1))) (hk15 : ∀ {l1 : Int32} {l2 : Int32} {l3 : Int32} {l4 : Int32}, y_HT M → (0 ≤ l1.toInt ∧ l1.toInt ≤ 127) → (0 ≤ l2.toInt ∧ l2.toInt ≤ 128) → (0 ≤ l3.toInt ∧ l3.toInt ≤ 6) → (0 ≤ l4.toInt ∧ l4.toInt ≤ 6) → 7 - l3.toInt ≤ m2 → 6 - l4.toInt < m15 → Ok (k15 (some 175) l1 l2 l3 l4) (q_pi (0) (1))) (hk47 : ∀ {l1 : Int32} {l2 : Int32} {l3 : Int32} {l4 : Int32} {l5 : Int32} {l6 : Int32}, y_HT M → (0 ≤ l1.toInt ∧ l1.toInt ≤ 127) → (0 ≤ l2.toInt ∧ l2.toInt ≤ 128) → (1 ≤ l3.toInt ∧ l3.toInt ≤ 6) → (0 ≤ l4.toInt ∧ l4.toInt ≤ 5) → (0 ≤ l5.toInt ∧ l5.toInt ≤ 1) → (0 ≤ l6.toInt ∧ l6.toInt ≤ 7) → 7 - l3.toInt ≤ m2 → 6 - l4.toInt ≤ m15 → 7 - l6.toInt < m47 → Ok (k47 (some 175) l1 l2 l3 l4 l5 l6) (q_pi (0) (1))) (H : y_HT M) (h_l1 : 0 ≤ l1.toInt ∧ l1.toInt ≤ 127) (h_l2 : 0 ≤ l2.toInt ∧ l2.toInt ≤ 128) (h_l3 : 1 ≤ l3.toInt ∧ l3.toInt ≤ 6) (h_l4 : 0 ≤ l4.toInt ∧ l4.toInt ≤ 5) (h_l5 : 0 ≤ l5.toInt ∧ l5.toInt ≤ 1) (h_l6 : 0 ≤ l6.toInt ∧ l6.toInt ≤ 7) (hm2 : 7 - l3.toInt ≤ m2) (hm15 : 6 - l4.toInt ≤ m15) (hm47 : 7 - l6.toInt ≤ m47) : Ok (F_X12_areParted_b47 k2 k15 k47 M (some 175) l1 l2 l3 l4 l5 l6) (q_pi (0) (1)) := by
  delta F_X12_areParted_b47
  refine y_gR (w := 185) H rfl (by decide) ?_
  refine y_aIr (lo := 0) (hi := 7) H (i := 185) (n := 157) rfl (by decide) (by decide) (by decide) rfl (fun v2 q_v2 e_v2 => ?_)
  refine Ok_i (fun c_1 => ?_) (fun c_1 => ?_)
  · skip
    replace c_1 := i_le c_1
    refine Ok_i (fun c_2 => ?_) (fun c_2 => ?_)
    · skip
      replace c_2 := i_eq c_2
      rw [L2_0] at c_2
      exact r_pi (by decide)
    · skip
      replace c_2 := i_ne c_2
      rw [L2_0] at c_2
      exact w_pi (S_X12_areParted_b110 hk2 hk15 H h_l1 h_l2 h_l3 h_l4 (by omega) (by omega)) (by decide) (by decide)
  · skip
    replace c_1 := i_nle c_1
    refine Ok_i (fun c_3 => ?_) (fun c_3 => ?_)
    · skip
      replace c_3 := i_eq c_3
      rw [L2_0] at c_3
      refine Ok_b (S_X12_isOf H) (fun v3 e_v3 => ?_)
      replace e_v3 := q_un e_v3
      refine Ok_i (fun c_4 => ?_) (fun c_4 => ?_)
      · skip
        replace c_4 := i_eq c_4
        rw [L2_0] at c_4
        exact w_pi (S_X12_areParted_b94 hk2 hk15 hk47 H h_l1 h_l2 h_l3 h_l4 (by omega) (by omega) (by omega) (by omega)) (by decide) (by decide)
      · skip
        replace c_4 := i_ne c_4
        rw [L2_0] at c_4
        refine y_gO H ?_
        refine Ok_b (S_X12_valueOf H (by omega) (by omega)) (fun v5 e_v5 => ?_)
        clear e_v5
        refine Ok_b (S_X12_valueOf H (by omega) (by omega)) (fun v6 e_v6 => ?_)
        clear e_v6
        refine Ok_i (fun c_5 => ?_) (fun c_5 => ?_)
        · skip
          replace c_5 := i_eq c_5
          exact w_pi (S_X12_areParted_b94 hk2 hk15 hk47 H h_l1 h_l2 h_l3 h_l4 (by omega) (by omega) (by omega) (by omega)) (by decide) (by decide)
        · skip
          replace c_5 := i_ne c_5
          exact w_pi (S_X12_areParted_b90 hk2 hk15 hk47 H h_l1 h_l2 h_l3 h_l4 (by omega) (by omega) (by omega) (by omega)) (by decide) (by decide)
    · skip
      replace c_3 := i_ne c_3
      rw [L2_0] at c_3
      exact w_pi (S_X12_areParted_b90 hk2 hk15 hk47 H h_l1 h_l2 h_l3 h_l4 (by omega) (by omega) (by omega) (by omega)) (by decide) (by decide)
theorem S_X12_areParted_L47 {k2 : Option Nat → Int32 → Int32 → Int32 → Option Int32} {m2 : Int} {k15 : Option Nat → Int32 → Int32 → Int32 → Int32 → Option Int32} {m15 : Int} {M : gM} (hk2 : ∀ {l1 : Int32} {l2 : Int32} {l3 : Int32}, y_HT M → (0 ≤ l1.toInt ∧ l1.toInt ≤ 127) → (0 ≤ l2.toInt ∧ l2.toInt ≤ 128) → (0 ≤ l3.toInt ∧ l3.toInt ≤ 7) → 7 - l3.toInt < m2 → Ok (k2 (some 175) l1 l2 l3) (q_pi (0) (1))) (hk15 : ∀ {l1 : Int32} {l2 : Int32} {l3 : Int32} {l4 : Int32}, y_HT M → (0 ≤ l1.toInt ∧ l1.toInt ≤ 127) → (0 ≤ l2.toInt ∧ l2.toInt ≤ 128) → (0 ≤ l3.toInt ∧ l3.toInt ≤ 6) → (0 ≤ l4.toInt ∧ l4.toInt ≤ 6) → 7 - l3.toInt ≤ m2 → 6 - l4.toInt < m15 → Ok (k15 (some 175) l1 l2 l3 l4) (q_pi (0) (1))) : ∀ (n : Nat) {l1 : Int32} {l2 : Int32} {l3 : Int32} {l4 : Int32} {l5 : Int32} {l6 : Int32}, y_HT M → (0 ≤ l1.toInt ∧ l1.toInt ≤ 127) → (0 ≤ l2.toInt ∧ l2.toInt ≤ 128) → (1 ≤ l3.toInt ∧ l3.toInt ≤ 6) → (0 ≤ l4.toInt ∧ l4.toInt ≤ 5) → (0 ≤ l5.toInt ∧ l5.toInt ≤ 1) → (0 ≤ l6.toInt ∧ l6.toInt ≤ 7) → 7 - l3.toInt ≤ m2 → 6 - l4.toInt ≤ m15 → 7 - l6.toInt < (n : Int) → Ok (F_X12_areParted_L47 k2 k15 M n (some 175) l1 l2 l3 l4 l5 l6) (q_pi (0) (1)) := by
  intro n
  induction n with
  | zero =>
    intro l1 l2 l3 l4 l5 l6 H h_l1 h_l2 h_l3 h_l4 h_l5 h_l6 hm2 hm15 hm
    exfalso
    omega
  | succ n ih =>
    intro l1 l2 l3 l4 l5 l6 H h_l1 h_l2 h_l3 h_l4 h_l5 h_l6 hm2 hm15 hm
    exact S_X12_areParted_b47 (m47 := 7 - l6.toInt) hk2 hk15 (fun H h_l1 h_l2 h_l3 h_l4 h_l5 h_l6 hm2 hm15 hmz => ih H h_l1 h_l2 h_l3 h_l4 h_l5 h_l6 hm2 hm15 (by omega)) H h_l1 h_l2 h_l3 h_l4 h_l5 h_l6 hm2 hm15 (Int.le_refl _)
set_option maxHeartbeats 1000000 in
theorem S_X12_areParted_b15 {k2 : Option Nat → Int32 → Int32 → Int32 → Option Int32} {m2 : Int} {k15 : Option Nat → Int32 → Int32 → Int32 → Int32 → Option Int32} {m15 : Int} {l1 : Int32} {l2 : Int32} {l3 : Int32} {l4 : Int32} {M : gM} (hk2 : ∀ {l1 : Int32} {l2 : Int32} {l3 : Int32}, y_HT M → (0 ≤ l1.toInt ∧ l1.toInt ≤ 127) → (0 ≤ l2.toInt ∧ l2.toInt ≤ 128) → (0 ≤ l3.toInt ∧ l3.toInt ≤ 7) → 7 - l3.toInt < m2 → Ok (k2 (some 175) l1 l2 l3) (q_pi (0) (1))) (hk15 : ∀ {l1 : Int32} {l2 : Int32} {l3 : Int32} {l4 : Int32}, y_HT M → (0 ≤ l1.toInt ∧ l1.toInt ≤ 127) → (0 ≤ l2.toInt ∧ l2.toInt ≤ 128) → (0 ≤ l3.toInt ∧ l3.toInt ≤ 6) → (0 ≤ l4.toInt ∧ l4.toInt ≤ 6) → 7 - l3.toInt ≤ m2 → 6 - l4.toInt < m15 → Ok (k15 (some 175) l1 l2 l3 l4) (q_pi (0) (1))) (H : y_HT M) (h_l1 : 0 ≤ l1.toInt ∧ l1.toInt ≤ 127) (h_l2 : 0 ≤ l2.toInt ∧ l2.toInt ≤ 128) (h_l3 : 0 ≤ l3.toInt ∧ l3.toInt ≤ 6) (h_l4 : 0 ≤ l4.toInt ∧ l4.toInt ≤ 6) (hm2 : 7 - l3.toInt ≤ m2) (hm15 : 6 - l4.toInt ≤ m15) : Ok (F_X12_areParted_b15 k2 k15 M (some 175) l1 l2 l3 l4) (q_pi (0) (1)) := by
  delta F_X12_areParted_b15
  refine Ok_i (fun c_1 => ?_) (fun c_1 => ?_)
  · skip
    replace c_1 := i_le c_1
    have a_2 := i_addc (x := l3) (c := 1) L2_1 (by omega) (by omega)
    exact w_pi (hk2 H h_l1 h_l2 (by omega) (by omega)) (by decide) (by decide)
  · skip
    replace c_1 := i_nle c_1
    refine Ok_b (S_X12_isOf H) (fun v1 e_v1 => ?_)
    replace e_v1 := q_un e_v1
    refine Ok_i (fun c_3 => ?_) (fun c_3 => ?_)
    · skip
      replace c_3 := i_eq c_3
      rw [L2_0] at c_3
      exact w_pi (S_X12_areParted_b110 hk2 hk15 H h_l1 h_l2 (by omega) (by omega) (by omega) (by omega)) (by decide) (by decide)
    · skip
      replace c_3 := i_ne c_3
      rw [L2_0] at c_3
      refine Ok_b (S_X12_isOf H) (fun v2 e_v2 => ?_)
      replace e_v2 := q_un e_v2
      refine Ok_i (fun c_4 => ?_) (fun c_4 => ?_)
      · skip
        replace c_4 := i_eq c_4
        rw [L2_0] at c_4
        exact w_pi (S_X12_areParted_b110 hk2 hk15 H h_l1 h_l2 (by omega) (by omega) (by omega) (by omega)) (by decide) (by decide)
      · skip
        replace c_4 := i_ne c_4
        rw [L2_0] at c_4
        exact w_pi (S_X12_areParted_L47 hk2 hk15 g_fuel H h_l1 h_l2 (by omega) (by omega) (by decide) (by decide) (by omega) (by omega) (q_fu (by rw [L2_0]; omega))) (by decide) (by decide)
theorem S_X12_areParted_L15 {k2 : Option Nat → Int32 → Int32 → Int32 → Option Int32} {m2 : Int} {M : gM} (hk2 : ∀ {l1 : Int32} {l2 : Int32} {l3 : Int32}, y_HT M → (0 ≤ l1.toInt ∧ l1.toInt ≤ 127) → (0 ≤ l2.toInt ∧ l2.toInt ≤ 128) → (0 ≤ l3.toInt ∧ l3.toInt ≤ 7) → 7 - l3.toInt < m2 → Ok (k2 (some 175) l1 l2 l3) (q_pi (0) (1))) : ∀ (n : Nat) {l1 : Int32} {l2 : Int32} {l3 : Int32} {l4 : Int32}, y_HT M → (0 ≤ l1.toInt ∧ l1.toInt ≤ 127) → (0 ≤ l2.toInt ∧ l2.toInt ≤ 128) → (0 ≤ l3.toInt ∧ l3.toInt ≤ 6) → (0 ≤ l4.toInt ∧ l4.toInt ≤ 6) → 7 - l3.toInt ≤ m2 → 6 - l4.toInt < (n : Int) → Ok (F_X12_areParted_L15 k2 M n (some 175) l1 l2 l3 l4) (q_pi (0) (1)) := by
  intro n
  induction n with
  | zero =>
    intro l1 l2 l3 l4 H h_l1 h_l2 h_l3 h_l4 hm2 hm
    exfalso
    omega
  | succ n ih =>
    intro l1 l2 l3 l4 H h_l1 h_l2 h_l3 h_l4 hm2 hm
    exact S_X12_areParted_b15 (m15 := 6 - l4.toInt) hk2 (fun H h_l1 h_l2 h_l3 h_l4 hm2 hmz => ih H h_l1 h_l2 h_l3 h_l4 hm2 (by omega)) H h_l1 h_l2 h_l3 h_l4 hm2 (Int.le_refl _)
theorem S_X12_areParted_b2 {k2 : Option Nat → Int32 → Int32 → Int32 → Option Int32} {m2 : Int} {l1 : Int32} {l2 : Int32} {l3 : Int32} {M : gM} (hk2 : ∀ {l1 : Int32} {l2 : Int32} {l3 : Int32}, y_HT M → (0 ≤ l1.toInt ∧ l1.toInt ≤ 127) → (0 ≤ l2.toInt ∧ l2.toInt ≤ 128) → (0 ≤ l3.toInt ∧ l3.toInt ≤ 7) → 7 - l3.toInt < m2 → Ok (k2 (some 175) l1 l2 l3) (q_pi (0) (1))) (H : y_HT M) (h_l1 : 0 ≤ l1.toInt ∧ l1.toInt ≤ 127) (h_l2 : 0 ≤ l2.toInt ∧ l2.toInt ≤ 128) (h_l3 : 0 ≤ l3.toInt ∧ l3.toInt ≤ 7) (hm2 : 7 - l3.toInt ≤ m2) : Ok (F_X12_areParted_b2 k2 M (some 175) l1 l2 l3) (q_pi (0) (1)) := by
  delta F_X12_areParted_b2
  refine y_gR (w := 185) H rfl (by decide) ?_
  refine y_aIr (lo := 0) (hi := 7) H (i := 185) (n := 157) rfl (by decide) (by decide) (by decide) rfl (fun v2 q_v2 e_v2 => ?_)
  refine Ok_i (fun c_1 => ?_) (fun c_1 => ?_)
  · skip
    replace c_1 := i_le c_1
    exact r_pi (by decide)
  · skip
    replace c_1 := i_nle c_1
    exact w_pi (S_X12_areParted_L15 hk2 g_fuel H h_l1 h_l2 (by omega) (by decide) (by omega) (q_fu (by rw [L2_0]; omega))) (by decide) (by decide)
theorem S_X12_areParted_L2 {M : gM} : ∀ (n : Nat) {l1 : Int32} {l2 : Int32} {l3 : Int32}, y_HT M → (0 ≤ l1.toInt ∧ l1.toInt ≤ 127) → (0 ≤ l2.toInt ∧ l2.toInt ≤ 128) → (0 ≤ l3.toInt ∧ l3.toInt ≤ 7) → 7 - l3.toInt < (n : Int) → Ok (F_X12_areParted_L2 M n (some 175) l1 l2 l3) (q_pi (0) (1)) := by
  intro n
  induction n with
  | zero =>
    intro l1 l2 l3 H h_l1 h_l2 h_l3  hm
    exfalso
    omega
  | succ n ih =>
    intro l1 l2 l3 H h_l1 h_l2 h_l3  hm
    exact S_X12_areParted_b2 (m2 := 7 - l3.toInt) (fun H h_l1 h_l2 h_l3  hmz => ih H h_l1 h_l2 h_l3  (by omega)) H h_l1 h_l2 h_l3  (Int.le_refl _)
theorem S_X12_areParted_b0 {l1 : Int32} {l2 : Int32} {M : gM} (H : y_HT M) (h_l1 : 0 ≤ l1.toInt ∧ l1.toInt ≤ 127) (h_l2 : 0 ≤ l2.toInt ∧ l2.toInt ≤ 127) : Ok (F_X12_areParted_b0 M (some 175) l1 l2) (q_pi (0) (1)) := by
  delta F_X12_areParted_b0
  exact w_pi (S_X12_areParted_L2  g_fuel H h_l1 (by omega) (by decide) (q_fu (by rw [L2_0]; omega))) (by decide) (by decide)
theorem S_X12_areParted {l1 : Int32} {l2 : Int32} {M : gM} (H : y_HT M) (h_l1 : 0 ≤ l1.toInt ∧ l1.toInt ≤ 127) (h_l2 : 0 ≤ l2.toInt ∧ l2.toInt ≤ 127) : Ok (F_X12_areParted (some 175) l1 l2 M) (q_pi (0) (1)) := by
  delta F_X12_areParted
  exact w_pi (S_X12_areParted_b0  H h_l1 h_l2) (by decide) (by decide)
theorem S_X12_parts_b33  {M : gM} (H : y_HT M) : Ok (F_X12_parts_b33 M) (q_pi (-2) (128)) := by
  delta F_X12_parts_b33
  exact r_pi (by decide)
theorem S_X12_parts_b83 {k41 : Option Nat → Int32 → Int32 → Int32 → Int32 → Option Int32} {m41 : Int} {l1 : Int32} {l2 : Int32} {l3 : Int32} {l4 : Int32} {M : gM} (hk41 : ∀ {l1 : Int32} {l2 : Int32} {l3 : Int32} {l4 : Int32}, y_HT M → (0 ≤ l1.toInt ∧ l1.toInt ≤ 127) → (0 ≤ l2.toInt ∧ l2.toInt ≤ 1) → (-2 ≤ l3.toInt ∧ l3.toInt ≤ 128) → (0 ≤ l4.toInt ∧ l4.toInt ≤ 128) → 128 - l4.toInt < m41 → Ok (k41 (some 175) l1 l2 l3 l4) (q_pi (-2) (128))) (H : y_HT M) (h_l1 : 0 ≤ l1.toInt ∧ l1.toInt ≤ 127) (h_l2 : 0 ≤ l2.toInt ∧ l2.toInt ≤ 1) (h_l3 : -2 ≤ l3.toInt ∧ l3.toInt ≤ 128) (h_l4 : 0 ≤ l4.toInt ∧ l4.toInt ≤ 127) (hm41 : 128 - l4.toInt ≤ m41) : Ok (F_X12_parts_b83 k41 M (some 175) l1 l2 l3 l4) (q_pi (-2) (128)) := by
  delta F_X12_parts_b83
  have a_1 := i_addc (x := l4) (c := 1) L2_1 (by omega) (by omega)
  exact w_pi (hk41 H h_l1 h_l2 h_l3 (by omega) (by omega)) (by decide) (by decide)
theorem S_X12_parts_b70 {k41 : Option Nat → Int32 → Int32 → Int32 → Int32 → Option Int32} {m41 : Int} {l1 : Int32} {l2 : Int32} {l3 : Int32} {l4 : Int32} {M : gM} (hk41 : ∀ {l1 : Int32} {l2 : Int32} {l3 : Int32} {l4 : Int32}, y_HT M → (0 ≤ l1.toInt ∧ l1.toInt ≤ 127) → (0 ≤ l2.toInt ∧ l2.toInt ≤ 1) → (-2 ≤ l3.toInt ∧ l3.toInt ≤ 128) → (0 ≤ l4.toInt ∧ l4.toInt ≤ 128) → 128 - l4.toInt < m41 → Ok (k41 (some 175) l1 l2 l3 l4) (q_pi (-2) (128))) (H : y_HT M) (h_l1 : 0 ≤ l1.toInt ∧ l1.toInt ≤ 127) (h_l2 : 0 ≤ l2.toInt ∧ l2.toInt ≤ 1) (h_l3 : -2 ≤ l3.toInt ∧ l3.toInt ≤ 128) (h_l4 : 0 ≤ l4.toInt ∧ l4.toInt ≤ 127) (hm41 : 128 - l4.toInt ≤ m41) : Ok (F_X12_parts_b70 k41 M (some 175) l1 l2 l3 l4) (q_pi (-2) (128)) := by
  delta F_X12_parts_b70
  refine y_gO H ?_
  refine Ok_b (S_X12_areParted H h_l1 h_l4) (fun v2 e_v2 => ?_)
  replace e_v2 := q_un e_v2
  refine Ok_i (fun c_1 => ?_) (fun c_1 => ?_)
  · skip
    replace c_1 := i_eq c_1
    rw [L2_0] at c_1
    exact w_pi (S_X12_parts_b83 hk41 H h_l1 h_l2 h_l3 h_l4 (by omega)) (by decide) (by decide)
  · skip
    replace c_1 := i_ne c_1
    rw [L2_0] at c_1
    exact w_pi (S_X12_parts_b83 hk41 H h_l1 h_l2 (by omega) h_l4 (by omega)) (by decide) (by decide)
set_option maxHeartbeats 1000000 in
theorem S_X12_parts_b41 {k41 : Option Nat → Int32 → Int32 → Int32 → Int32 → Option Int32} {m41 : Int} {l1 : Int32} {l2 : Int32} {l3 : Int32} {l4 : Int32} {M : gM} (hk41 : ∀ {l1 : Int32} {l2 : Int32} {l3 : Int32} {l4 : Int32}, y_HT M → (0 ≤ l1.toInt ∧ l1.toInt ≤ 127) → (0 ≤ l2.toInt ∧ l2.toInt ≤ 1) → (-2 ≤ l3.toInt ∧ l3.toInt ≤ 128) → (0 ≤ l4.toInt ∧ l4.toInt ≤ 128) → 128 - l4.toInt < m41 → Ok (k41 (some 175) l1 l2 l3 l4) (q_pi (-2) (128))) (H : y_HT M) (h_l1 : 0 ≤ l1.toInt ∧ l1.toInt ≤ 127) (h_l2 : 0 ≤ l2.toInt ∧ l2.toInt ≤ 1) (h_l3 : -2 ≤ l3.toInt ∧ l3.toInt ≤ 128) (h_l4 : 0 ≤ l4.toInt ∧ l4.toInt ≤ 128) (hm41 : 128 - l4.toInt ≤ m41) : Ok (F_X12_parts_b41 k41 M (some 175) l1 l2 l3 l4) (q_pi (-2) (128)) := by
  delta F_X12_parts_b41
  refine y_gR (w := 185) H rfl (by decide) ?_
  refine y_aIr (lo := 0) (hi := 7) H (i := 185) (n := 157) rfl (by decide) (by decide) (by decide) rfl (fun v2 q_v2 e_v2 => ?_)
  have a_1 := i_shl1 (v := v2) (by omega)
  refine Ok_i (fun c_2 => ?_) (fun c_2 => ?_)
  · skip
    replace c_2 := i_le c_2
    refine Ok_i (fun c_3 => ?_) (fun c_3 => ?_)
    · skip
      replace c_3 := i_le c_3
      rw [L2_0] at c_3
      refine Ok_i (fun c_4 => ?_) (fun c_4 => ?_)
      · skip
        replace c_4 := i_eq c_4
        rw [L2_0] at c_4
        refine Ok_b (S_X12_bits H) (fun v3 e_v3 => ?_)
        replace e_v3 := q_un e_v3
        exact r_pi (by omega)
      · skip
        replace c_4 := i_ne c_4
        rw [L2_0] at c_4
        exact r_pi (by omega)
    · skip
      replace c_3 := i_nle c_3
      rw [L2_0] at c_3
      exact r_pi (by decide)
  · skip
    replace c_2 := i_nle c_2
    refine Ok_i (fun c_5 => ?_) (fun c_5 => ?_)
    · skip
      replace c_5 := i_lt c_5
      rw [L2_0] at c_5
      exact w_pi (S_X12_parts_b70 hk41 H h_l1 h_l2 h_l3 (by omega) (by omega)) (by decide) (by decide)
    · skip
      replace c_5 := i_nlt c_5
      rw [L2_0] at c_5
      refine Ok_b (S_X12_bits H) (fun v4 e_v4 => ?_)
      replace e_v4 := q_un e_v4
      refine Ok_b (S_X12_bits H) (fun v5 e_v5 => ?_)
      replace e_v5 := q_un e_v5
      refine Ok_i (fun c_6 => ?_) (fun c_6 => ?_)
      · skip
        replace c_6 := i_le c_6
        exact w_pi (S_X12_parts_b83 hk41 H h_l1 h_l2 h_l3 (by omega) (by omega)) (by decide) (by decide)
      · skip
        replace c_6 := i_nle c_6
        exact w_pi (S_X12_parts_b70 hk41 H h_l1 h_l2 h_l3 (by omega) (by omega)) (by decide) (by decide)
theorem S_X12_parts_L41 {M : gM} : ∀ (n : Nat) {l1 : Int32} {l2 : Int32} {l3 : Int32} {l4 : Int32}, y_HT M → (0 ≤ l1.toInt ∧ l1.toInt ≤ 127) → (0 ≤ l2.toInt ∧ l2.toInt ≤ 1) → (-2 ≤ l3.toInt ∧ l3.toInt ≤ 128) → (0 ≤ l4.toInt ∧ l4.toInt ≤ 128) → 128 - l4.toInt < (n : Int) → Ok (F_X12_parts_L41 M n (some 175) l1 l2 l3 l4) (q_pi (-2) (128)) := by
  intro n
  induction n with
  | zero =>
    intro l1 l2 l3 l4 H h_l1 h_l2 h_l3 h_l4  hm
    exfalso
    omega
  | succ n ih =>
    intro l1 l2 l3 l4 H h_l1 h_l2 h_l3 h_l4  hm
    exact S_X12_parts_b41 (m41 := 128 - l4.toInt) (fun H h_l1 h_l2 h_l3 h_l4  hmz => ih H h_l1 h_l2 h_l3 h_l4  (by omega)) H h_l1 h_l2 h_l3 h_l4  (Int.le_refl _)
set_option maxHeartbeats 1000000 in
theorem S_X12_parts_b0 {l1 : Int32} {l2 : Int32} {M : gM} (H : y_HT M) : Ok (F_X12_parts_b0 M (some 175) l1 l2) (q_pi (-2) (128)) := by
  delta F_X12_parts_b0
  refine y_gO H ?_
  refine Ok_b (S_X12_isHouse H) (fun v2 e_v2 => ?_)
  replace e_v2 := q_un e_v2
  refine Ok_i (fun c_1 => ?_) (fun c_1 => ?_)
  · skip
    replace c_1 := i_eq c_1
    rw [L2_0] at c_1
    exact w_pi (S_X12_parts_b33  H) (by decide) (by decide)
  · skip
    replace c_1 := i_ne c_1
    rw [L2_0] at c_1
    refine Ok_i (fun c_2 => ?_) (fun c_2 => ?_)
    · skip
      replace c_2 := i_lt c_2
      rw [L2_0] at c_2
      exact w_pi (S_X12_parts_b33  H) (by decide) (by decide)
    · skip
      replace c_2 := i_nlt c_2
      rw [L2_0] at c_2
      refine y_gR (w := 185) H rfl (by decide) ?_
      refine y_aIr (lo := 0) (hi := 7) H (i := 185) (n := 157) rfl (by decide) (by decide) (by decide) rfl (fun v4 q_v4 e_v4 => ?_)
      have a_3 := i_shl1 (v := v4) (by omega)
      refine Ok_i (fun c_4 => ?_) (fun c_4 => ?_)
      · skip
        replace c_4 := i_le c_4
        exact w_pi (S_X12_parts_b33  H) (by decide) (by decide)
      · skip
        replace c_4 := i_nle c_4
        refine Ok_b (S_X12_in (lo := 0) (hi := 1) rfl rfl) (fun v5 e_v5 => ?_)
        obtain ⟨e_v5, w_v5⟩ := e_v5
        refine Ok_i (fun c_5 => ?_) (fun c_5 => ?_)
        · skip
          replace c_5 := i_eq c_5
          rw [L2_0] at c_5
          exact w_pi (S_X12_parts_b33  H) (by decide) (by decide)
        · skip
          replace c_5 := i_ne c_5
          rw [L2_0] at c_5
          have x_v5 := w_v5 (by omega)
          exact w_pi (S_X12_parts_L41  g_fuel H (by omega) (by omega) (by decide) (by decide) (q_fu (by rw [L2_0]; omega))) (by decide) (by decide)
theorem S_X12_parts {l1 : Int32} {l2 : Int32} {M : gM} (H : y_HT M) : Ok (F_X12_parts (some 175) l1 l2 M) (q_pi (-2) (128)) := by
  delta F_X12_parts
  exact w_pi (S_X12_parts_b0  H) (by decide) (by decide)
theorem S_X12_countsWay_L12 : ∀ (n : Nat) {l1 : Int32} {M : gM}, y_HT M → (∀ i : Nat, (i : Int) < (M.2.1 185 2).toInt → 0 ≤ (M.2.1 189 i).toInt) → (0 ≤ l1.toInt ∧ l1.toInt ≤ 7) → 7 - l1.toInt < (n : Int) → Ok (F_X12_countsWay_L12 n (some 175) l1 M) (y_PV 36028797555834880 M) := by
  intro n
  induction n with
  | zero =>
    intro l1 M H hh h hm
    exfalso
    omega
  | succ n ih =>
    intro l1 M H hh h hm
    show Ok (F_X12_countsWay_b12 (F_X12_countsWay_L12 n) (some 175) l1 M) _
    delta F_X12_countsWay_b12 F_X12_countsWay_b53
    refine y_gR (w := 185) H rfl (by decide) ?_
    refine y_aIr (lo := 0) (hi := 7) H (i := 185) (n := 157) rfl (by decide) (by decide) (by decide) rfl (fun v2 q2 e2 => ?_)
    have q2' : M.2.1 185 2 = v2 := q2
    refine Ok_i (fun c => ?_) (fun c => ?_)
    · exact z_PV H (y_rf0 _ _)
    · replace c := i_nle c
      have a := i_addc (x := l1) (c := (1 : Int32)) L2_1 (by omega) (by omega)
      have e1 := i_clamp (x := l1) h.1
      refine y_gR (w := 189) H rfl (by decide) ?_
      refine y_aIr (lo := -1) (hi := 9) H (i := 189) (n := 7) rfl (by decide) (by omega) (by omega) rfl (fun v4 q4 e4 => ?_)
      have h4 := hh l1.toNatClampNeg (by rw [q2']; omega)
      rw [q4] at h4
      refine Ok_i (fun c2 => ?_) (fun c2 => ?_)
      · exact ih H hh (by omega) (by omega)
      · replace c2 := i_nle c2
        rw [L2_8] at c2
        refine y_gR (w := 190) H rfl (by decide) ?_
        refine y_gR (w := 189) H rfl (by decide) ?_
        refine y_aIs H (i := 189) (n := 7) rfl (by decide) (by omega) (by omega) q4 ?_
        have a1 := i_mulL (c := (8 : Int32)) (x := l1) (n := 8) rfl (by omega) (by omega)
        have a2 := i_add (x := (8 : Int32) * l1) (y := v4) (by omega) (by omega)
        refine y_aI H (i := 190) (n := 56) rfl (by decide) (by omega) (by omega) (fun v8 q8 => ?_)
        refine y_sI (S := 36028797555834880) H (i := 190) (n := 56) rfl (by omega) (by omega) (y_full rfl) (by decide) (fun M9 H9 f9 q9 o9 l9 => ?_)
        refine v_PV (S1 := 36028797555834880) f9 (ih H9 (fun i hi => ?_) (by omega) (by omega)) (by decide)
        rw [o9 _ _ (Or.inl (by decide))] at hi ⊢
        exact hh i hi
theorem S_X12_countsWay {M : gM} (H : y_HT M) (hh : ∀ i : Nat, (i : Int) < (M.2.1 185 2).toInt → 0 ≤ (M.2.1 189 i).toInt) : Ok (F_X12_countsWay (some 175) M) (y_PV 36028797555834880 M) := by
  delta F_X12_countsWay F_X12_countsWay_b0
  refine y_gI (lo := -2147483648) (hi := 2147483647) H rfl (fun v1 q1 e1 => ?_)
  refine y_pI (S := 36028797555834880) (lo := -2147483648) (hi := 2147483647) H rfl (i_rng _) (by decide) (fun M2 H2 f2 q2 o2 l2 => ?_)
  refine v_PV (S1 := 36028797555834880) f2 (S_X12_countsWay_L12 g_fuel H2 (fun i hi => ?_) (by decide) (by decide)) (by decide)
  rw [o2 _ _ (Or.inl (by decide))] at hi ⊢
  exact hh i hi
theorem S_X12_isWrong_b28  {M : gM} (H : y_HT M) : Ok (F_X12_isWrong_b28 M) (q_pi (0) (1)) := by
  delta F_X12_isWrong_b28
  exact r_pi (by decide)
set_option maxHeartbeats 1000000 in
theorem S_X12_isWrong_b0 {l1 : Int32} {l2 : Int32} {M : gM} (H : y_HT M) (h_l1 : 0 ≤ l1.toInt ∧ l1.toInt ≤ 6) (h_l2 : 0 ≤ l2.toInt ∧ l2.toInt ≤ 6) : Ok (F_X12_isWrong_b0 M (some 175) l1 l2) (q_pi (0) (1)) := by
  delta F_X12_isWrong_b0
  refine y_gO H ?_
  refine Ok_b (S_X12_knowsOf H h_l1 h_l2) (fun v2 e_v2 => ?_)
  replace e_v2 := q_un e_v2
  refine Ok_i (fun c_1 => ?_) (fun c_1 => ?_)
  · skip
    replace c_1 := i_eq c_1
    rw [L2_0] at c_1
    exact w_pi (S_X12_isWrong_b28  H) (by decide) (by decide)
  · skip
    replace c_1 := i_ne c_1
    rw [L2_0] at c_1
    refine Ok_b (S_X12_valueOf H h_l1 h_l2) (fun v3 e_v3 => ?_)
    clear e_v3
    refine Ok_b (S_X12_thingOf H h_l2 (by decide)) (fun v4 e_v4 => ?_)
    clear e_v4
    refine Ok_i (fun c_2 => ?_) (fun c_2 => ?_)
    · skip
      replace c_2 := i_eq c_2
      exact w_pi (S_X12_isWrong_b28  H) (by decide) (by decide)
    · skip
      replace c_2 := i_ne c_2
      exact r_pi (by decide)
theorem S_X12_isWrong {l1 : Int32} {l2 : Int32} {M : gM} (H : y_HT M) (h_l1 : 0 ≤ l1.toInt ∧ l1.toInt ≤ 6) (h_l2 : 0 ≤ l2.toInt ∧ l2.toInt ≤ 6) : Ok (F_X12_isWrong (some 175) l1 l2 M) (q_pi (0) (1)) := by
  delta F_X12_isWrong
  exact w_pi (S_X12_isWrong_b0  H h_l1 h_l2) (by decide) (by decide)
theorem S_X12_canHave_b53  {M : gM} (H : y_HT M) : Ok (F_X12_canHave_b53 M) (q_pi (0) (1)) := by
  delta F_X12_canHave_b53
  exact r_pi (by decide)
set_option maxHeartbeats 1000000 in
theorem S_X12_canHave_b0 {l1 : Int32} {l2 : Int32} {l3 : Int32} {M : gM} (H : y_HT M) (h_l1 : 0 ≤ l1.toInt ∧ l1.toInt ≤ 6) (h_l2 : 0 ≤ l2.toInt ∧ l2.toInt ≤ 7) (h_l3 : 0 ≤ l3.toInt ∧ l3.toInt ≤ 6) : Ok (F_X12_canHave_b0 M (some 175) l1 l2 l3) (q_pi (0) (1)) := by
  delta F_X12_canHave_b0
  refine Ok_i (fun c_1 => ?_) (fun c_1 => ?_)
  · skip
    replace c_1 := i_eq c_1
    rw [L2_7] at c_1
    exact r_pi (by decide)
  · skip
    replace c_1 := i_ne c_1
    rw [L2_7] at c_1
    refine y_gR (w := 185) H rfl (by decide) ?_
    refine y_aIr (lo := 0) (hi := 7) H (i := 185) (n := 157) rfl (by decide) (by decide) (by decide) rfl (fun v2 q_v2 e_v2 => ?_)
    refine Ok_i (fun c_2 => ?_) (fun c_2 => ?_)
    · skip
      replace c_2 := i_le c_2
      exact w_pi (S_X12_canHave_b53  H) (by decide) (by decide)
    · skip
      replace c_2 := i_nle c_2
      refine y_gR (w := 185) H rfl (by decide) ?_
      have a_3 := i_cadd (c := (52 : Int32)) (x := l1) L2_52 (by omega) (by omega)
      refine y_aI H (i := 185) (n := 157) rfl (by decide) (by omega) (by omega) (fun v4 q_v4 => ?_)
      refine Ok_b (S_X12_isOf H) (fun v5 e_v5 => ?_)
      replace e_v5 := q_un e_v5
      refine Ok_i (fun c_4 => ?_) (fun c_4 => ?_)
      · skip
        replace c_4 := i_eq c_4
        rw [L2_0] at c_4
        exact w_pi (S_X12_canHave_b53  H) (by decide) (by decide)
      · skip
        replace c_4 := i_ne c_4
        rw [L2_0] at c_4
        refine y_gO H ?_
        refine Ok_b (S_X12_valueOf H (by omega) h_l3) (fun v7 e_v7 => ?_)
        clear e_v7
        refine Ok_b (S_X12_valueOf H h_l1 h_l3) (fun v8 e_v8 => ?_)
        clear e_v8
        refine Ok_i (fun c_5 => ?_) (fun c_5 => ?_)
        · skip
          replace c_5 := i_eq c_5
          exact r_pi (by decide)
        · skip
          replace c_5 := i_ne c_5
          exact w_pi (S_X12_canHave_b53  H) (by decide) (by decide)
theorem S_X12_canHave {l1 : Int32} {l2 : Int32} {l3 : Int32} {M : gM} (H : y_HT M) (h_l1 : 0 ≤ l1.toInt ∧ l1.toInt ≤ 6) (h_l2 : 0 ≤ l2.toInt ∧ l2.toInt ≤ 7) (h_l3 : 0 ≤ l3.toInt ∧ l3.toInt ≤ 6) : Ok (F_X12_canHave (some 175) l1 l2 l3 M) (q_pi (0) (1)) := by
  delta F_X12_canHave
  exact w_pi (S_X12_canHave_b0  H h_l1 h_l2 h_l3) (by decide) (by decide)
theorem S_X12_isRound_L10 {M : gM} {l1 l2 : Int32} (H : y_HT M) (hh : ∀ i : Nat, (i : Int) ≤ l2.toInt → 0 ≤ (M.2.1 189 i).toInt) (h2 : 0 ≤ l2.toInt ∧ l2.toInt ≤ 6) : ∀ (n : Nat) {l3 l4 : Int32}, 0 ≤ l3.toInt → (0 ≤ l4.toInt ∧ l4.toInt ≤ 7) → 7 - l4.toInt < (n : Int) → Ok (F_X12_isRound_L10 M n (some 175) l1 l2 l3 l4) (q_pi 0 1) := by
  intro n
  induction n with
  | zero =>
    intro l3 l4 h3 h4 hm
    exfalso
    omega
  | succ n ih =>
    intro l3 l4 h3 h4 hm
    show Ok (F_X12_isRound_b10 (F_X12_isRound_L10 M n) M (some 175) l1 l2 l3 l4) _
    delta F_X12_isRound_b10 F_X12_isRound_b42
    refine Ok_i (fun c => ?_) (fun c => ?_)
    · exact r_pi (by decide)
    · replace c := i_nle c
      rw [L2_7] at c
      have a := i_addc (x := l4) (c := (1 : Int32)) L2_1 (by omega) (by omega)
      refine Ok_i (fun c2 => ?_) (fun c2 => ?_)
      · exact r_pi (by decide)
      · replace c2 := i_nlt c2
        refine Ok_i (fun c3 => ?_) (fun c3 => ?_)
        · exact r_pi (by decide)
        · have e1 := i_clamp (x := l3) h3
          refine y_gR (w := 189) H rfl (by decide) ?_
          refine y_aI H (i := 189) (n := 7) rfl (by decide) (by omega) (by omega) (fun v2 q2 => ?_)
          have h5 := hh l3.toNatClampNeg (by omega)
          rw [q2] at h5
          exact ih h5 (by omega) (by omega)
theorem S_X12_isRound {M : gM} {l1 l2 : Int32} (H : y_HT M) (hh : ∀ i : Nat, (i : Int) ≤ l2.toInt → 0 ≤ (M.2.1 189 i).toInt) (h2 : 0 ≤ l2.toInt ∧ l2.toInt ≤ 6) (h1 : 0 ≤ l1.toInt ∧ l1.toInt ≤ l2.toInt) : Ok (F_X12_isRound (some 175) l1 l2 M) (q_pi 0 1) := by
  delta F_X12_isRound F_X12_isRound_b0
  have e1 := i_clamp (x := l1) h1.1
  refine y_gR (w := 189) H rfl (by decide) ?_
  refine y_aI H (i := 189) (n := 7) rfl (by decide) (by omega) (by omega) (fun v2 q2 => ?_)
  have h5 := hh l1.toNatClampNeg (by omega)
  rw [q2] at h5
  exact S_X12_isRound_L10 H hh h2 g_fuel h5 (by decide) (by decide)
def y_cc (i : Nat) : Int :=
  match i with
  | 0 => 2222222
  | 1 => 222222
  | 2 => 22222
  | 3 => 2222
  | 4 => 222
  | 5 => 22
  | 6 => 2
  | _ => 0
theorem y_cc2 : ∀ {i : Nat}, i ≤ 6 → 2 ≤ y_cc i := by decide
theorem y_cc3 : ∀ {i : Nat}, i ≤ 5 → y_cc i = 10 * y_cc (i + 1) + 2 := by decide
def y_mu (f : Nat → Int32) : Nat → Int
  | 0 => 0
  | n + 1 => y_mu f n + ((9 - (f n).toInt) * y_cc n + 1)
theorem y_muc {f g : Nat → Int32} : ∀ {n : Nat}, (∀ i, i < n → f i = g i) → y_mu f n = y_mu g n := by
  intro n
  induction n with
  | zero =>
    intro h
    rfl
  | succ n ih =>
    intro h
    unfold y_mu
    rw [ih (fun i hi => h i (by omega)), h n (by omega)]
theorem y_mstep {e o c : Int} (h : e + 1 ≤ o) (hc : 0 ≤ c) : (9 - o) * c + c ≤ (9 - e) * c := by
  have h9 := Int.mul_le_mul_of_nonneg_right (show 9 - o + 1 ≤ 9 - e by omega) hc
  rw [Int.add_mul, Int.one_mul] at h9
  exact h9
/-- where the search for ways stands: heir h, at most m rounds to go -/
def y_gi (M : gM) (h m : Int) : Prop := ((-1 ≤ h ∧ h ≤ (M.2.1 185 2).toInt) ∧ ∀ i : Nat, (i : Int) < h → 0 ≤ (M.2.1 189 i).toInt) ∧ 0 ≤ m ∧ (0 ≤ h → h < (M.2.1 185 2).toInt → y_mu (M.2.1 189) (h.toNat + 1) ≤ m) ∧ (h = (M.2.1 185 2).toInt → y_mu (M.2.1 189) h.toNat + 1 ≤ m)
theorem y_mu0 {f : Nat → Int32} : ∀ {n : Nat}, n ≤ 7 → (∀ i, i < n → (f i).toInt ≤ 9) → 0 ≤ y_mu f n := by
  intro n
  induction n with
  | zero =>
    intro _ _
    exact Int.le_refl _
  | succ n ih =>
    intro h h2
    have h3 := ih (by omega) (fun i hi => h2 i (by omega))
    have h4 := Int.mul_nonneg (show 0 ≤ 9 - (f n).toInt by have := h2 n (by omega); omega) (show 0 ≤ y_cc n by have := y_cc2 (i := n) (by omega); omega)
    unfold y_mu
    omega
theorem y_r189 {M : gM} (H : y_HT M) (i : Nat) : -1 ≤ (M.2.1 189 i).toInt ∧ (M.2.1 189 i).toInt ≤ 9 := H.2.1 189 (by decide) i
theorem y_r185 {M : gM} (H : y_HT M) : 0 ≤ (M.2.1 185 2).toInt ∧ (M.2.1 185 2).toInt ≤ 7 := H.2.1 185 (by decide) 2
/-- one step down: h is left -/
theorem y_gdown {M : gM} {h m : Int} (H : y_HT M) (g : y_gi M h m) (h0 : 0 ≤ h) (hh : h < (M.2.1 185 2).toInt → 0 ≤ (M.2.1 189 h.toNat).toInt ∨ True) : y_gi M (h - 1) (m - 1) := by
  obtain ⟨⟨⟨g1, g2⟩, g3⟩, g4, g5, g6⟩ := g
  have r := y_r185 H
  have hmu : y_mu (M.2.1 189) h.toNat ≤ m - 1 := by
    rcases Int.lt_or_le h (M.2.1 185 2).toInt with e | e
    · have h5 := g5 h0 e
      unfold y_mu at h5
      have h6 := Int.mul_nonneg (show 0 ≤ 9 - (M.2.1 189 h.toNat).toInt by have := y_r189 H h.toNat; omega) (show 0 ≤ y_cc h.toNat by have := y_cc2 (i := h.toNat) (by omega); omega)
      omega
    · have h5 := g6 (by omega)
      omega
  have h7 := y_mu0 (f := M.2.1 189) (n := h.toNat) (by omega) (fun i _ => (y_r189 H i).2)
  refine ⟨⟨⟨by omega, by omega⟩, fun i hi => g3 i (by omega)⟩, by omega, fun h1 h2 => ?_, fun h1 => by omega⟩
  have e : (h - 1).toNat + 1 = h.toNat := by omega
  rw [e]
  exact hmu
theorem S_X12_gathersWays_b153 {k35 : Option Nat → Int32 → Int32 → gM → Option gM} {l1 l2 l3 s0 : Int32} {m : Int} {M : gM} (hk : ∀ {l2 : Int32} {m' : Int} {M : gM}, y_HT M → y_gi M l2.toInt m' → m' < m → Ok (k35 (some 175) l1 l2 M) (y_PV 54043196065316864 M)) (H : y_HT M) (g : y_gi M l2.toInt m) (h2 : 0 ≤ l2.toInt ∧ l2.toInt < (M.2.1 185 2).toInt) (h3 : s0 = 0 → ((M.2.1 189 l2.toNatClampNeg).toInt < l3.toInt ∧ 0 ≤ l3.toInt) ∧ l3.toInt ≤ 8) : Ok (F_X12_gathersWays_b153 k35 (some 175) l1 l2 l3 s0 M) (y_PV 54043196065316864 M) := by
  delta F_X12_gathersWays_b153 F_X12_gathersWays_b205
  have r := y_r185 H
  have zm : (-1 : Int32).toInt = -1 := rfl
  refine Ok_i (fun c => ?_) (fun c => ?_)
  · obtain ⟨⟨h3a, h3b⟩, h3c⟩ := h3 c
    have e1 := i_clamp (x := l2) h2.1
    have en : l2.toInt.toNat = l2.toNatClampNeg := rfl
    obtain ⟨⟨⟨g1, g2⟩, g3⟩, g4, g5, g6⟩ := g
    have g7 := g5 h2.1 h2.2
    rw [en] at g7
    unfold y_mu at g7
    have hc2 := y_cc2 (i := l2.toNatClampNeg) (by omega)
    have hst := y_mstep (c := y_cc l2.toNatClampNeg) (e := (M.2.1 189 l2.toNatClampNeg).toInt) (o := l3.toInt) (by omega) (by omega)
    refine y_gR (w := 189) H rfl (by decide) ?_
    refine y_sI (S := 54043196065316864) H (i := 189) (n := 7) rfl (by omega) (by omega) (y_in (lo := -1) (hi := 9) rfl (by omega)) (by decide) (fun M2 H2 f2 q2 o2 l2' => ?_)
    have s2 : M2.2.1 185 2 = M.2.1 185 2 := o2 _ _ (Or.inl (by decide))
    have k2 : ∀ i, i ≠ l2.toNatClampNeg → M2.2.1 189 i = M.2.1 189 i := fun i hi => o2 _ _ (Or.inr hi)
    have hmu : y_mu (M2.2.1 189) l2.toNatClampNeg = y_mu (M.2.1 189) l2.toNatClampNeg := y_muc (fun i hi => k2 i (by omega))
    have hge : ∀ i : Nat, (i : Int) ≤ l2.toInt → 0 ≤ (M2.2.1 189 i).toInt := by
      intro i hi
      by_cases e : i = l2.toNatClampNeg
      · rw [e, q2]
        exact h3b
      · rw [k2 i e]
        exact g3 i (by omega)
    have mu1 : y_mu (M2.2.1 189) (l2.toNatClampNeg + 1) = y_mu (M.2.1 189) l2.toNatClampNeg + ((9 - l3.toInt) * y_cc l2.toNatClampNeg + 1) := by
      rw [← hmu, ← q2]
      rfl
    refine y_gO H2 ?_
    refine Ok_b (S_X12_isRound (l1 := l2) (l2 := l2) H2 hge (by omega) (by omega)) (fun v4 _ => ?_)
    refine Ok_i (fun _ => ?_) (fun _ => ?_)
    · have a := i_addc (x := l2) (c := (1 : Int32)) L2_1 (by omega) (by omega)
      have e2 := i_clamp (x := l2 + (1 : Int32)) (by omega)
      have en2 : (l2 + (1 : Int32)).toInt.toNat = l2.toNatClampNeg + 1 := by omega
      refine y_gR (w := 185) H2 rfl (by decide) ?_
      refine y_aIs H2 (i := 185) (n := 157) rfl (by decide) (by decide) (by decide) s2 ?_
      refine Ok_i (fun c6 => ?_) (fun c6 => ?_)
      · replace c6 := i_le c6
        refine v_PV (S1 := 54043196065316864) f2 (hk (m' := m - 1) H2 ⟨⟨⟨by omega, by rw [s2]; omega⟩, fun i hi => hge i (by omega)⟩, ?_, ?_, ?_⟩ (by omega)) (by decide)
        · have h8 := y_mu0 (f := M2.2.1 189) (n := l2.toNatClampNeg + 1) (by omega) (fun i _ => (y_r189 H2 i).2)
          omega
        · intro _ h9
          rw [s2] at h9
          omega
        · intro _
          rw [en2, mu1]
          omega
      · replace c6 := i_nle c6
        refine y_gR (w := 189) H2 rfl (by decide) ?_
        refine y_sI (S := 54043196065316864) H2 (i := 189) (n := 7) rfl (by omega) (by omega) (y_in (lo := -1) (hi := 9) rfl (by decide)) (by decide) (fun M8 H8 f8 q8 o8 l8 => ?_)
        have s8 : M8.2.1 185 2 = M.2.1 185 2 := (o8 _ _ (Or.inl (by decide))).trans s2
        have k8 : ∀ i, i ≠ (l2 + (1 : Int32)).toNatClampNeg → M8.2.1 189 i = M2.2.1 189 i := fun i hi => o8 _ _ (Or.inr hi)
        have ec : (l2 + (1 : Int32)).toNatClampNeg = l2.toNatClampNeg + 1 := by omega
        have mu8 : y_mu (M8.2.1 189) (l2.toNatClampNeg + 1) = y_mu (M2.2.1 189) (l2.toNatClampNeg + 1) := y_muc (fun i hi => k8 i (by omega))
        have mu9 : y_mu (M8.2.1 189) (l2.toNatClampNeg + 1 + 1) = y_mu (M8.2.1 189) (l2.toNatClampNeg + 1) + (10 * y_cc (l2.toNatClampNeg + 1) + 1) := by
          show y_mu (M8.2.1 189) (l2.toNatClampNeg + 1) + ((9 - (M8.2.1 189 (l2.toNatClampNeg + 1)).toInt) * y_cc (l2.toNatClampNeg + 1) + 1) = _
          rw [ec] at q8
          rw [q8, zm]
          rfl
        have hc3 := y_cc3 (i := l2.toNatClampNeg) (by omega)
        refine v_PV (S1 := 54043196065316864) (y_tr f2 f8) (hk (m' := m - 1) H8 ⟨⟨⟨by omega, by rw [s8]; omega⟩, fun i hi => ?_⟩, ?_, ?_, ?_⟩ (by omega)) (by decide)
        · rw [k8 i (by omega)]
          exact hge i (by omega)
        · have h8 := y_mu0 (f := M2.2.1 189) (n := l2.toNatClampNeg + 1) (by omega) (fun i _ => (y_r189 H2 i).2)
          omega
        · intro _ _
          rw [en2, mu9, mu8, mu1]
          omega
        · intro h9
          rw [s8] at h9
          omega
    · refine v_PV (S1 := 54043196065316864) f2 (hk (m' := m - 1) H2 ⟨⟨⟨by omega, by rw [s2]; omega⟩, fun i hi => hge i (by omega)⟩, ?_, ?_, ?_⟩ (by omega)) (by decide)
      · have h8 := y_mu0 (f := M2.2.1 189) (n := l2.toNatClampNeg + 1) (by omega) (fun i _ => (y_r189 H2 i).2)
        omega
      · intro _ _
        rw [en, mu1]
        omega
      · intro h9
        rw [s2] at h9
        omega
  · have a := i_addc (x := l2) (c := (-1 : Int32)) zm (by omega) (by omega)
    have gd := y_gdown H g h2.1 (fun _ => Or.inr trivial)
    exact hk (m' := m - 1) H (by rw [a]; exact gd) (by omega)
theorem S_X12_gathersWays_b119 {k35 : Option Nat → Int32 → Int32 → gM → Option gM} {l1 l2 l3 : Int32} {m : Int} {M : gM} (hk : ∀ {l2 : Int32} {m' : Int} {M : gM}, y_HT M → y_gi M l2.toInt m' → m' < m → Ok (k35 (some 175) l1 l2 M) (y_PV 54043196065316864 M)) (H : y_HT M) (g : y_gi M l2.toInt m) (h1 : 0 ≤ l1.toInt ∧ l1.toInt ≤ 6) (h2 : 0 ≤ l2.toInt ∧ l2.toInt < (M.2.1 185 2).toInt) (h3 : l3.toInt ≤ 8 → (M.2.1 189 l2.toNatClampNeg).toInt < l3.toInt ∧ 0 ≤ l3.toInt) : Ok (F_X12_gathersWays_b119 k35 (some 175) l1 l2 l3 M) (y_PV 54043196065316864 M) := by
  delta F_X12_gathersWays_b119
  have r := y_r185 H
  refine y_gO H ?_
  refine Ok_b (S_X12_isWrong H (by omega) h1) (fun v2 _ => ?_)
  refine Ok_i (fun _ => ?_) (fun _ => ?_)
  · refine Ok_i (fun c => ?_) (fun c => ?_)
    · replace c := i_le c
      rw [L2_8] at c
      exact S_X12_gathersWays_b153 hk H g h2 (fun _ => ⟨h3 c, c⟩)
    · exact S_X12_gathersWays_b153 hk H g h2 (fun e => absurd e (by decide))
  · refine Ok_i (fun c => ?_) (fun c => ?_)
    · replace c := i_le c
      rw [L2_7] at c
      exact S_X12_gathersWays_b153 hk H g h2 (fun _ => ⟨h3 (by omega), by omega⟩)
    · exact S_X12_gathersWays_b153 hk H g h2 (fun e => absurd e (by decide))
theorem S_X12_gathersWays_L97 {k35 : Option Nat → Int32 → Int32 → gM → Option gM} {l1 l2 : Int32} {m : Int} {M : gM} (hk : ∀ {l2 : Int32} {m' : Int} {M : gM}, y_HT M → y_gi M l2.toInt m' → m' < m → Ok (k35 (some 175) l1 l2 M) (y_PV 54043196065316864 M)) (H : y_HT M) (g : y_gi M l2.toInt m) (h1 : 0 ≤ l1.toInt ∧ l1.toInt ≤ 6) (h2 : 0 ≤ l2.toInt ∧ l2.toInt < (M.2.1 185 2).toInt) : ∀ (n : Nat) {l3 : Int32}, ((M.2.1 189 l2.toNatClampNeg).toInt < l3.toInt ∧ 0 ≤ l3.toInt) → l3.toInt ≤ 10 → 10 - l3.toInt < (n : Int) → Ok (F_X12_gathersWays_L97 k35 n (some 175) l1 l2 l3 M) (y_PV 54043196065316864 M) := by
  intro n
  induction n with
  | zero =>
    intro l3 h3 h4 hm
    exfalso
    omega
  | succ n ih =>
    intro l3 h3 h4 hm
    show Ok (F_X12_gathersWays_b97 k35 (F_X12_gathersWays_L97 k35 n) (some 175) l1 l2 l3 M) _
    delta F_X12_gathersWays_b97
    have r := y_r185 H
    refine Ok_i (fun c => ?_) (fun c => ?_)
    · exact S_X12_gathersWays_b119 hk H g h1 h2 (fun _ => h3)
    · replace c := i_nle c
      rw [L2_7] at c
      refine y_gO H ?_
      refine Ok_b (S_X12_canHave H (by omega) (by omega) h1) (fun v2 _ => ?_)
      refine Ok_i (fun _ => ?_) (fun _ => ?_)
      · have a := i_addc (x := l3) (c := (1 : Int32)) L2_1 (by omega) (by omega)
        exact ih (by omega) (by omega) (by omega)
      · exact S_X12_gathersWays_b119 hk H g h1 h2 (fun _ => h3)
theorem S_X12_gathersWays_L35 {l1 : Int32} (h1 : 0 ≤ l1.toInt ∧ l1.toInt ≤ 6) : ∀ (n : Nat) {l2 : Int32} {m : Int} {M : gM}, y_HT M → y_gi M l2.toInt m → m < (n : Int) → Ok (F_X12_gathersWays_L35 n (some 175) l1 l2 M) (y_PV 54043196065316864 M) := by
  intro n
  induction n with
  | zero =>
    intro l2 m M H g hm
    exfalso
    have := g.2.1
    omega
  | succ n ih =>
    intro l2 m M H g hm
    show Ok (F_X12_gathersWays_b35 (F_X12_gathersWays_L35 n) (some 175) l1 l2 M) _
    delta F_X12_gathersWays_b35 F_X12_gathersWays_b93
    have r := y_r185 H
    have zm : (-1 : Int32).toInt = -1 := rfl
    have hk : ∀ {l2 : Int32} {m' : Int} {M : gM}, y_HT M → y_gi M l2.toInt m' → m' < m → Ok (F_X12_gathersWays_L35 n (some 175) l1 l2 M) (y_PV 54043196065316864 M) := fun H g h => ih H g (by omega)
    refine Ok_i (fun c => ?_) (fun c => ?_)
    · exact z_PV H (y_rf0 _ _)
    · replace c := i_nlt c
      rw [L2_0] at c
      have gb := g.1.1
      refine y_gR (w := 185) H rfl (by decide) ?_
      refine y_aI H (i := 185) (n := 157) rfl (by decide) (by decide) (by decide) (fun v2 q2 => ?_)
      have q2' : M.2.1 185 2 = v2 := q2
      have a := i_addc (x := l2) (c := (-1 : Int32)) zm (by omega) (by omega)
      refine Ok_i (fun c2 => ?_) (fun c2 => ?_)
      · replace c2 := i_eq c2
        refine y_gO H ?_
        refine Ok_b (S_X12_countsWay H (fun i hi => g.1.2 i (by rw [q2'] at hi; omega))) (fun M10 z => ?_)
        obtain ⟨H10, f10⟩ := z
        have gd := y_gdown H g c (fun _ => Or.inr trivial)
        have s10 : M10.2.1 185 = M.2.1 185 := funext (y_fa (i := 185) f10 (by decide) (by decide))
        have k10 : M10.2.1 189 = M.2.1 189 := funext (y_fa (i := 189) f10 (by decide) (by decide))
        have g10 : y_gi M10 (l2 + (-1 : Int32)).toInt (m - 1) := by
          unfold y_gi at gd ⊢
          rw [s10, k10, a]
          exact gd
        exact v_PV (S1 := 54043196065316864) (y_fl (by decide) f10) (hk H10 g10 (by omega)) (by decide)
      · replace c2 := i_ne c2
        have h2 : 0 ≤ l2.toInt ∧ l2.toInt < (M.2.1 185 2).toInt := ⟨c, by rw [q2'] at gb ⊢; omega⟩
        have e1 := i_clamp (x := l2) c
        refine y_gR (w := 189) H rfl (by decide) ?_
        refine y_aIr (lo := -1) (hi := 9) H (i := 189) (n := 7) rfl (by decide) (by omega) (by omega) rfl (fun v4 q4 e4 => ?_)
        refine y_gO H ?_
        refine Ok_b (S_X12_isWrong H (by omega) h1) (fun v6 _ => ?_)
        refine Ok_i (fun _ => ?_) (fun _ => ?_)
        · refine y_gR (w := 189) H rfl (by decide) ?_
          refine y_aIs H (i := 189) (n := 7) rfl (by decide) (by omega) (by omega) q4 ?_
          refine Ok_i (fun c3 => ?_) (fun c3 => ?_)
          · exact S_X12_gathersWays_b119 hk H g h1 h2 (fun h9 => absurd h9 (by decide))
          · replace c3 := i_nle c3
            rw [L2_0] at c3
            exact S_X12_gathersWays_b119 hk H g h1 h2 (fun h9 => ⟨by rw [q4, L2_8]; omega, by decide⟩)
        · have a4 := i_addc (x := v4) (c := (1 : Int32)) L2_1 (by omega) (by omega)
          exact S_X12_gathersWays_L97 hk H g h1 h2 g_fuel ⟨by rw [q4]; omega, by omega⟩ (by omega) (by show _ < (1000000000 : Int); omega)
theorem S_X12_gathersWays_L2 {l1 : Int32} (h1 : 0 ≤ l1.toInt ∧ l1.toInt ≤ 6) : ∀ (n : Nat) {l2 : Int32} {M : gM}, y_HT M → (0 ≤ l2.toInt ∧ l2.toInt ≤ 56) → 56 - l2.toInt < (n : Int) → Ok (F_X12_gathersWays_L2 n (some 175) l1 l2 M) (y_PV 54043196065316864 M) := by
  intro n
  induction n with
  | zero =>
    intro l2 M H h hm
    exfalso
    omega
  | succ n ih =>
    intro l2 M H h hm
    show Ok (F_X12_gathersWays_b2 (F_X12_gathersWays_L2 n) (some 175) l1 l2 M) _
    delta F_X12_gathersWays_b2
    have z56 : (56 : Int32).toInt = 56 := rfl
    have zm : (-1 : Int32).toInt = -1 := rfl
    refine Ok_i (fun c => ?_) (fun c => ?_)
    · refine y_pI (S := 54043196065316864) (lo := -2147483648) (hi := 2147483647) H rfl (i_rng _) (by decide) (fun M1 H1 f1 q1 o1 l1' => ?_)
      refine y_gR (w := 189) H1 rfl (by decide) ?_
      refine y_sI (S := 54043196065316864) H1 (i := 189) (n := 7) rfl (by decide) (by decide) (y_in (lo := -1) (hi := 9) rfl (by decide)) (by decide) (fun M3 H3 f3 q3 o3 l3 => ?_)
      have r := y_r185 H3
      have q3' : M3.2.1 189 0 = -1 := q3
      refine v_PV (S1 := 54043196065316864) (y_tr f1 f3) (S_X12_gathersWays_L35 h1 g_fuel (m := 22222221) H3 ⟨⟨⟨by decide, r.1⟩, fun i hi => ?_⟩, by decide, fun _ _ => ?_, fun _ => ?_⟩ (by decide)) (by decide)
      · have hi2 : (i : Int) < 0 := hi
        omega
      · show 0 + ((9 - (M3.2.1 189 0).toInt) * 2222222 + 1) ≤ 22222221
        rw [q3', zm]
        decide
      · show (0 : Int) + 1 ≤ 22222221
        decide
    · replace c := i_nle c
      rw [z56] at c
      have a := i_addc (x := l2) (c := (1 : Int32)) L2_1 (by omega) (by omega)
      refine y_gR (w := 190) H rfl (by decide) ?_
      refine y_sI (S := 54043196065316864) H (i := 190) (n := 56) rfl (by omega) (by omega) (y_full rfl) (by decide) (fun M5 H5 f5 q5 o5 l5 => ?_)
      exact v_PV (S1 := 54043196065316864) f5 (ih H5 (by omega) (by omega)) (by decide)
theorem S_X12_gathersWays {l1 : Int32} {M : gM} (H : y_HT M) (h1 : 0 ≤ l1.toInt ∧ l1.toInt ≤ 6) : Ok (F_X12_gathersWays (some 175) l1 M) (y_PV 54043196065316864 M) := by
  delta F_X12_gathersWays F_X12_gathersWays_b0
  exact S_X12_gathersWays_L2 h1 g_fuel H (by decide) (by decide)
theorem S_X12_ways_b0 {l1 : Int32} {M : gM} (H : y_HT M) : Ok (F_X12_ways_b0 (some 175) l1 M) (y_PI 54043196065316864 M (-2147483648) (2147483647)) := by
  delta F_X12_ways_b0
  refine y_gO H ?_
  refine Ok_b (S_X12_isThing H) (fun v2 e_v2 => ?_)
  obtain ⟨e_v2, w_v2⟩ := e_v2
  refine Ok_i (fun c_1 => ?_) (fun c_1 => ?_)
  · skip
    replace c_1 := i_eq c_1
    rw [L2_0] at c_1
    exact z_PI (i_rng _) H (y_rf0 _ _)
  · skip
    replace c_1 := i_ne c_1
    rw [L2_0] at c_1
    have x_v2 := w_v2 (by omega)
    refine Ok_b (S_X12_gathersWays H (by omega)) (fun M3 zM3 => ?_)
    obtain ⟨HM3, fM3⟩ := zM3
    refine y_gI (lo := -2147483648) (hi := 2147483647) HM3 rfl (fun v4 q_v4 e_v4 => ?_)
    exact z_PI (i_rng _) HM3 fM3
theorem S_X12_ways {l1 : Int32} {M : gM} (H : y_HT M) : Ok (F_X12_ways (some 175) l1 M) (y_PI 54043196065316864 M (-2147483648) (2147483647)) := by
  delta F_X12_ways
  exact v_PI (S1 := 54043196065316864) (y_rf0 _ _) (S_X12_ways_b0  H) (by decide) (by decide) (by decide)
theorem S_X12_taught_b16  {M : gM} (H : y_HT M) : Ok (F_X12_taught_b16 M) (y_PI 54043196065316864 M (-4) (6)) := by
  delta F_X12_taught_b16
  exact z_PI (by decide) H (y_rf0 _ _)
set_option maxHeartbeats 1000000 in
theorem S_X12_taught_b38 {k38 : Option Nat → Int32 → Int32 → gM → Option (Int32 × gM)} {m38 : Int} {l1 : Int32} {l3 : Int32} {M : gM} (hk38 : ∀ {l1 : Int32} {l3 : Int32} {M : gM}, y_HT M → (0 ≤ l1.toInt ∧ l1.toInt ≤ 6) → (0 ≤ l3.toInt ∧ l3.toInt ≤ 8) → 8 - l3.toInt < m38 → Ok (k38 (some 175) l1 l3 M) (y_PI 54043196065316864 M (-4) (6))) (H : y_HT M) (h_l1 : 0 ≤ l1.toInt ∧ l1.toInt ≤ 6) (h_l3 : 0 ≤ l3.toInt ∧ l3.toInt ≤ 8) (hm38 : 8 - l3.toInt ≤ m38) : Ok (F_X12_taught_b38 k38 (some 175) l1 l3 M) (y_PI 54043196065316864 M (-4) (6)) := by
  delta F_X12_taught_b38
  refine Ok_i (fun c_1 => ?_) (fun c_1 => ?_)
  · skip
    replace c_1 := i_lt c_1
    rw [L2_7] at c_1
    exact z_PI (by decide) H (y_rf0 _ _)
  · skip
    replace c_1 := i_nlt c_1
    rw [L2_7] at c_1
    refine y_gR (w := 190) H rfl (by decide) ?_
    have a_2 := i_mulL (c := (8 : Int32)) (x := l1) L2_8 (by omega) (by omega)
    have a_3 := i_add (x := ((8 : Int32) * l1)) (y := l3) (by omega) (by omega)
    refine y_aI H (i := 190) (n := 56) rfl (by decide) (by omega) (by omega) (fun v2 q_v2 => ?_)
    refine y_gI (lo := -2147483648) (hi := 2147483647) H rfl (fun v3 q_v3 e_v3 => ?_)
    refine Ok_i (fun c_4 => ?_) (fun c_4 => ?_)
    · skip
      replace c_4 := i_eq c_4
      refine Ok_i (fun c_5 => ?_) (fun c_5 => ?_)
      · skip
        replace c_5 := i_eq c_5
        rw [L2_7] at c_5
        exact z_PI (by decide) H (y_rf0 _ _)
      · skip
        replace c_5 := i_ne c_5
        rw [L2_7] at c_5
        exact z_PI (by omega) H (y_rf0 _ _)
    · skip
      replace c_4 := i_ne c_4
      have a_6 := i_addc (x := l3) (c := 1) L2_1 (by omega) (by omega)
      exact v_PI (S1 := 54043196065316864) (y_rf0 _ _) (hk38 H h_l1 (by omega) (by omega)) (by decide) (by decide) (by decide)
theorem S_X12_taught_L38 : ∀ (n : Nat) {l1 : Int32} {l3 : Int32} {M : gM}, y_HT M → (0 ≤ l1.toInt ∧ l1.toInt ≤ 6) → (0 ≤ l3.toInt ∧ l3.toInt ≤ 8) → 8 - l3.toInt < (n : Int) → Ok (F_X12_taught_L38 n (some 175) l1 l3 M) (y_PI 54043196065316864 M (-4) (6)) := by
  intro n
  induction n with
  | zero =>
    intro l1 l3 M H h_l1 h_l3  hm
    exfalso
    omega
  | succ n ih =>
    intro l1 l3 M H h_l1 h_l3  hm
    exact S_X12_taught_b38 (m38 := 8 - l3.toInt) (fun H h_l1 h_l3  hmz => ih H h_l1 h_l3  (by omega)) H h_l1 h_l3  (Int.le_refl _)
set_option maxHeartbeats 1000000 in
theorem S_X12_taught_b0 {l1 : Int32} {l2 : Int32} {M : gM} (H : y_HT M) : Ok (F_X12_taught_b0 (some 175) l1 l2 M) (y_PI 54043196065316864 M (-4) (6)) := by
  delta F_X12_taught_b0
  refine y_gO H ?_
  refine Ok_b (S_X12_isHeir H) (fun v2 e_v2 => ?_)
  obtain ⟨e_v2, w_v2⟩ := e_v2
  refine Ok_i (fun c_1 => ?_) (fun c_1 => ?_)
  · skip
    replace c_1 := i_eq c_1
    rw [L2_0] at c_1
    exact v_PI (S1 := 54043196065316864) (y_rf0 _ _) (S_X12_taught_b16  H) (by decide) (by decide) (by decide)
  · skip
    replace c_1 := i_ne c_1
    rw [L2_0] at c_1
    have x_v2 := w_v2 (by omega)
    refine Ok_b (S_X12_isThing H) (fun v3 e_v3 => ?_)
    obtain ⟨e_v3, w_v3⟩ := e_v3
    refine Ok_i (fun c_2 => ?_) (fun c_2 => ?_)
    · skip
      replace c_2 := i_eq c_2
      rw [L2_0] at c_2
      exact v_PI (S1 := 54043196065316864) (y_rf0 _ _) (S_X12_taught_b16  H) (by decide) (by decide) (by decide)
    · skip
      replace c_2 := i_ne c_2
      rw [L2_0] at c_2
      have x_v3 := w_v3 (by omega)
      refine Ok_b (S_X12_isWrong H (by omega) (by omega)) (fun v4 e_v4 => ?_)
      replace e_v4 := q_un e_v4
      refine Ok_i (fun c_3 => ?_) (fun c_3 => ?_)
      · skip
        replace c_3 := i_eq c_3
        rw [L2_0] at c_3
        exact z_PI (by decide) H (y_rf0 _ _)
      · skip
        replace c_3 := i_ne c_3
        rw [L2_0] at c_3
        refine Ok_b (S_X12_gathersWays H (by omega)) (fun M5 zM5 => ?_)
        obtain ⟨HM5, fM5⟩ := zM5
        exact v_PI (S1 := 54043196065316864) fM5 (S_X12_taught_L38  g_fuel HM5 (by omega) (by decide) (q_fu (by rw [L2_0]; omega))) (by decide) (by decide) (by decide)
theorem S_X12_taught {l1 : Int32} {l2 : Int32} {M : gM} (H : y_HT M) : Ok (F_X12_taught (some 175) l1 l2 M) (y_PI 54043196065316864 M (-4) (6)) := by
  delta F_X12_taught
  exact v_PI (S1 := 54043196065316864) (y_rf0 _ _) (S_X12_taught_b0  H) (by decide) (by decide) (by decide)
theorem S_X12_promptsYear_b134 {k134 : Option Nat → Int32 → gM → Option gM} {m134 : Int} {l2 : Int32} {M : gM} (hk134 : ∀ {l2 : Int32} {M : gM}, y_HT M → (0 ≤ l2.toInt ∧ l2.toInt ≤ 100) → 100 - l2.toInt < m134 → Ok (k134 (some 175) l2 M) (y_PV 216172782113783808 M)) (H : y_HT M) (h_l2 : 0 ≤ l2.toInt ∧ l2.toInt ≤ 100) (hm134 : 100 - l2.toInt ≤ m134) : Ok (F_X12_promptsYear_b134 k134 (some 175) l2 M) (y_PV 216172782113783808 M) := by
  delta F_X12_promptsYear_b134
  refine Ok_i (fun c_1 => ?_) (fun c_1 => ?_)
  · skip
    replace c_1 := i_lt c_1
    rw [L2_99] at c_1
    exact z_PV H (y_rf0 _ _)
  · skip
    replace c_1 := i_nlt c_1
    rw [L2_99] at c_1
    refine y_gR (w := 191) H rfl (by decide) ?_
    refine y_gR (w := 192) H rfl (by decide) ?_
    refine y_aI H (i := 192) (n := 100) rfl (by decide) (by omega) (by omega) (fun v3 q_v3 => ?_)
    refine y_sI (S := 216172782113783808) H (i := 191) (n := 100) rfl (by omega) (by omega) (y_full rfl) (by decide) (fun M4 HM4 fM4 q_M4 o_M4 l_M4 => ?_)
    have a_2 := i_addc (x := l2) (c := 1) L2_1 (by omega) (by omega)
    exact v_PV (S1 := 216172782113783808) fM4 (hk134 HM4 (by omega) (by omega)) (by decide)
theorem S_X12_promptsYear_L134 : ∀ (n : Nat) {l2 : Int32} {M : gM}, y_HT M → (0 ≤ l2.toInt ∧ l2.toInt ≤ 100) → 100 - l2.toInt < (n : Int) → Ok (F_X12_promptsYear_L134 n (some 175) l2 M) (y_PV 216172782113783808 M) := by
  intro n
  induction n with
  | zero =>
    intro l2 M H h_l2  hm
    exfalso
    omega
  | succ n ih =>
    intro l2 M H h_l2  hm
    exact S_X12_promptsYear_b134 (m134 := 100 - l2.toInt) (fun H h_l2  hmz => ih H h_l2  (by omega)) H h_l2  (Int.le_refl _)
theorem S_X12_promptsYear_b126 {k23 : Option Nat → Int32 → Int32 → gM → Option gM} {m23 : Int} {l1 : Int32} {l2 : Int32} {M : gM} (hk23 : ∀ {l1 : Int32} {l2 : Int32} {M : gM}, y_HT M → (0 ≤ l1.toInt ∧ l1.toInt ≤ 44) → (1 ≤ l2.toInt ∧ l2.toInt ≤ 100) → 100 - l2.toInt < m23 → Ok (k23 (some 175) l1 l2 M) (y_PV 216172782113783808 M)) (H : y_HT M) (h_l1 : 0 ≤ l1.toInt ∧ l1.toInt ≤ 44) (h_l2 : 1 ≤ l2.toInt ∧ l2.toInt ≤ 99) (hm23 : 100 - l2.toInt ≤ m23) : Ok (F_X12_promptsYear_b126 k23 (some 175) l1 l2 M) (y_PV 216172782113783808 M) := by
  delta F_X12_promptsYear_b126
  have a_1 := i_addc (x := l2) (c := 1) L2_1 (by omega) (by omega)
  exact v_PV (S1 := 216172782113783808) (y_rf0 _ _) (hk23 H h_l1 (by omega) (by omega)) (by decide)
theorem S_X12_promptsYear_b120 {k23 : Option Nat → Int32 → Int32 → gM → Option gM} {m23 : Int} {k31 : Option Nat → Int32 → Int32 → Int32 → gM → Option gM} {m31 : Int} {l1 : Int32} {l2 : Int32} {l3 : Int32} {M : gM} (hk23 : ∀ {l1 : Int32} {l2 : Int32} {M : gM}, y_HT M → (0 ≤ l1.toInt ∧ l1.toInt ≤ 44) → (1 ≤ l2.toInt ∧ l2.toInt ≤ 100) → 100 - l2.toInt < m23 → Ok (k23 (some 175) l1 l2 M) (y_PV 216172782113783808 M)) (hk31 : ∀ {l1 : Int32} {l2 : Int32} {l3 : Int32} {M : gM}, y_HT M → (0 ≤ l1.toInt ∧ l1.toInt ≤ 44) → (1 ≤ l2.toInt ∧ l2.toInt ≤ 99) → (0 ≤ l3.toInt ∧ l3.toInt ≤ 11) → 100 - l2.toInt ≤ m23 → 11 - l3.toInt < m31 → Ok (k31 (some 175) l1 l2 l3 M) (y_PV 216172782113783808 M)) (H : y_HT M) (h_l1 : 0 ≤ l1.toInt ∧ l1.toInt ≤ 44) (h_l2 : 1 ≤ l2.toInt ∧ l2.toInt ≤ 99) (h_l3 : 0 ≤ l3.toInt ∧ l3.toInt ≤ 10) (hm23 : 100 - l2.toInt ≤ m23) (hm31 : 11 - l3.toInt ≤ m31) : Ok (F_X12_promptsYear_b120 k23 k31 (some 175) l1 l2 l3 M) (y_PV 216172782113783808 M) := by
  delta F_X12_promptsYear_b120
  have a_1 := i_addc (x := l3) (c := 1) L2_1 (by omega) (by omega)
  exact v_PV (S1 := 216172782113783808) (y_rf0 _ _) (hk31 H h_l1 h_l2 (by omega) (by omega) (by omega)) (by decide)
theorem S_X12_promptsYear_b105 {k23 : Option Nat → Int32 → Int32 → gM → Option gM} {m23 : Int} {k31 : Option Nat → Int32 → Int32 → Int32 → gM → Option gM} {m31 : Int} {l1 : Int32} {l2 : Int32} {l3 : Int32} {l4 : Int32} {M : gM} (hk23 : ∀ {l1 : Int32} {l2 : Int32} {M : gM}, y_HT M → (0 ≤ l1.toInt ∧ l1.toInt ≤ 44) → (1 ≤ l2.toInt ∧ l2.toInt ≤ 100) → 100 - l2.toInt < m23 → Ok (k23 (some 175) l1 l2 M) (y_PV 216172782113783808 M)) (hk31 : ∀ {l1 : Int32} {l2 : Int32} {l3 : Int32} {M : gM}, y_HT M → (0 ≤ l1.toInt ∧ l1.toInt ≤ 44) → (1 ≤ l2.toInt ∧ l2.toInt ≤ 99) → (0 ≤ l3.toInt ∧ l3.toInt ≤ 11) → 100 - l2.toInt ≤ m23 → 11 - l3.toInt < m31 → Ok (k31 (some 175) l1 l2 l3 M) (y_PV 216172782113783808 M)) (H : y_HT M) (h_l1 : 0 ≤ l1.toInt ∧ l1.toInt ≤ 44) (h_l2 : 1 ≤ l2.toInt ∧ l2.toInt ≤ 99) (h_l3 : 0 ≤ l3.toInt ∧ l3.toInt ≤ 10) (h_l4 : 1 ≤ l4.toInt ∧ l4.toInt ≤ 99) (hm23 : 100 - l2.toInt ≤ m23) (hm31 : 11 - l3.toInt ≤ m31) : Ok (F_X12_promptsYear_b105 k23 k31 (some 175) l1 l2 l3 l4 M) (y_PV 216172782113783808 M) := by
  delta F_X12_promptsYear_b105
  refine y_gR (w := 192) H rfl (by decide) ?_
  refine y_gR (w := 191) H rfl (by decide) ?_
  refine y_aI H (i := 191) (n := 100) rfl (by decide) (by omega) (by omega) (fun v3 q_v3 => ?_)
  refine y_sI (S := 216172782113783808) H (i := 192) (n := 100) rfl (by omega) (by omega) (y_full rfl) (by decide) (fun M4 HM4 fM4 q_M4 o_M4 l_M4 => ?_)
  exact v_PV (S1 := 216172782113783808) fM4 (S_X12_promptsYear_b120 hk23 hk31 HM4 h_l1 h_l2 h_l3 (by omega) (by omega)) (by decide)
set_option maxHeartbeats 1000000 in
theorem S_X12_promptsYear_b68 {k23 : Option Nat → Int32 → Int32 → gM → Option gM} {m23 : Int} {k31 : Option Nat → Int32 → Int32 → Int32 → gM → Option gM} {m31 : Int} {l1 : Int32} {l2 : Int32} {l3 : Int32} {s0 : Int32} {M : gM} (hk23 : ∀ {l1 : Int32} {l2 : Int32} {M : gM}, y_HT M → (0 ≤ l1.toInt ∧ l1.toInt ≤ 44) → (1 ≤ l2.toInt ∧ l2.toInt ≤ 100) → 100 - l2.toInt < m23 → Ok (k23 (some 175) l1 l2 M) (y_PV 216172782113783808 M)) (hk31 : ∀ {l1 : Int32} {l2 : Int32} {l3 : Int32} {M : gM}, y_HT M → (0 ≤ l1.toInt ∧ l1.toInt ≤ 44) → (1 ≤ l2.toInt ∧ l2.toInt ≤ 99) → (0 ≤ l3.toInt ∧ l3.toInt ≤ 11) → 100 - l2.toInt ≤ m23 → 11 - l3.toInt < m31 → Ok (k31 (some 175) l1 l2 l3 M) (y_PV 216172782113783808 M)) (H : y_HT M) (h_l1 : 0 ≤ l1.toInt ∧ l1.toInt ≤ 44) (h_l2 : 1 ≤ l2.toInt ∧ l2.toInt ≤ 99) (h_l3 : 0 ≤ l3.toInt ∧ l3.toInt ≤ 10) (h_s0 : 1 ≤ s0.toInt ∧ s0.toInt ≤ 99) (hm23 : 100 - l2.toInt ≤ m23) (hm31 : 11 - l3.toInt ≤ m31) : Ok (F_X12_promptsYear_b68 k23 k31 (some 175) l1 l2 l3 s0 M) (y_PV 216172782113783808 M) := by
  delta F_X12_promptsYear_b68
  have a_1 := i_sub (x := s0) (y := l1) (by omega) (by omega)
  refine Ok_i (fun c_2 => ?_) (fun c_2 => ?_)
  · skip
    replace c_2 := i_le c_2
    rw [L2_0] at c_2
    exact v_PV (S1 := 216172782113783808) (y_rf0 _ _) (S_X12_promptsYear_b120 hk23 hk31 H h_l1 h_l2 h_l3 (by omega) (by omega)) (by decide)
  · skip
    replace c_2 := i_nle c_2
    rw [L2_0] at c_2
    refine y_gR (w := 192) H rfl (by decide) ?_
    refine y_aI H (i := 192) (n := 100) rfl (by decide) (by omega) (by omega) (fun v2 q_v2 => ?_)
    refine Ok_i (fun c_3 => ?_) (fun c_3 => ?_)
    · skip
      replace c_3 := i_lt c_3
      rw [L2_0] at c_3
      exact v_PV (S1 := 216172782113783808) (y_rf0 _ _) (S_X12_promptsYear_b105 hk23 hk31 H h_l1 h_l2 h_l3 (by omega) (by omega) (by omega)) (by decide)
    · skip
      replace c_3 := i_nlt c_3
      rw [L2_0] at c_3
      refine y_gR (w := 191) H rfl (by decide) ?_
      refine y_aI H (i := 191) (n := 100) rfl (by decide) (by omega) (by omega) (fun v4 q_v4 => ?_)
      refine y_gR (w := 192) H rfl (by decide) ?_
      refine y_aI2 H (i := 192) (n := 100) rfl (by decide) (by omega) (by omega) q_v2 (fun v6 e_v6 => ?_)
      have t_v6 := congrArg Int32.toInt e_v6
      have q_v6 := q_v2.trans e_v6.symm
      refine Ok_i (fun c_4 => ?_) (fun c_4 => ?_)
      · skip
        replace c_4 := i_le c_4
        exact v_PV (S1 := 216172782113783808) (y_rf0 _ _) (S_X12_promptsYear_b120 hk23 hk31 H h_l1 h_l2 h_l3 (by omega) (by omega)) (by decide)
      · skip
        replace c_4 := i_nle c_4
        exact v_PV (S1 := 216172782113783808) (y_rf0 _ _) (S_X12_promptsYear_b105 hk23 hk31 H h_l1 h_l2 h_l3 (by omega) (by omega) (by omega)) (by decide)
set_option maxHeartbeats 1000000 in
theorem S_X12_promptsYear_b31 {k23 : Option Nat → Int32 → Int32 → gM → Option gM} {m23 : Int} {k31 : Option Nat → Int32 → Int32 → Int32 → gM → Option gM} {m31 : Int} {l1 : Int32} {l2 : Int32} {l3 : Int32} {M : gM} (hk23 : ∀ {l1 : Int32} {l2 : Int32} {M : gM}, y_HT M → (0 ≤ l1.toInt ∧ l1.toInt ≤ 44) → (1 ≤ l2.toInt ∧ l2.toInt ≤ 100) → 100 - l2.toInt < m23 → Ok (k23 (some 175) l1 l2 M) (y_PV 216172782113783808 M)) (hk31 : ∀ {l1 : Int32} {l2 : Int32} {l3 : Int32} {M : gM}, y_HT M → (0 ≤ l1.toInt ∧ l1.toInt ≤ 44) → (1 ≤ l2.toInt ∧ l2.toInt ≤ 99) → (0 ≤ l3.toInt ∧ l3.toInt ≤ 11) → 100 - l2.toInt ≤ m23 → 11 - l3.toInt < m31 → Ok (k31 (some 175) l1 l2 l3 M) (y_PV 216172782113783808 M)) (H : y_HT M) (h_l1 : 0 ≤ l1.toInt ∧ l1.toInt ≤ 44) (h_l2 : 1 ≤ l2.toInt ∧ l2.toInt ≤ 99) (h_l3 : 0 ≤ l3.toInt ∧ l3.toInt ≤ 11) (hm23 : 100 - l2.toInt ≤ m23) (hm31 : 11 - l3.toInt ≤ m31) : Ok (F_X12_promptsYear_b31 k23 k31 (some 175) l1 l2 l3 M) (y_PV 216172782113783808 M) := by
  delta F_X12_promptsYear_b31
  refine Ok_i (fun c_1 => ?_) (fun c_1 => ?_)
  · skip
    replace c_1 := i_lt c_1
    rw [L2_10] at c_1
    exact v_PV (S1 := 216172782113783808) (y_rf0 _ _) (S_X12_promptsYear_b126 hk23 H h_l1 h_l2 (by omega)) (by decide)
  · skip
    replace c_1 := i_nlt c_1
    rw [L2_10] at c_1
    refine y_gR (w := 191) H rfl (by decide) ?_
    refine y_aI H (i := 191) (n := 100) rfl (by decide) (by omega) (by omega) (fun v2 q_v2 => ?_)
    refine Ok_i (fun c_2 => ?_) (fun c_2 => ?_)
    · skip
      replace c_2 := i_lt c_2
      rw [L2_0] at c_2
      exact v_PV (S1 := 216172782113783808) (y_rf0 _ _) (S_X12_promptsYear_b126 hk23 H h_l1 h_l2 (by omega)) (by decide)
    · skip
      replace c_2 := i_nlt c_2
      rw [L2_0] at c_2
      have a_3 := i_mulL (c := (10 : Int32)) (x := l3) L2_10 (by omega) (by omega)
      have a_4 := i_add (x := l2) (y := ((10 : Int32) * l3)) (by omega) (by omega)
      refine Ok_i (fun c_5 => ?_) (fun c_5 => ?_)
      · skip
        replace c_5 := i_le c_5
        rw [L2_99] at c_5
        exact v_PV (S1 := 216172782113783808) (y_rf0 _ _) (S_X12_promptsYear_b68 hk23 hk31 H h_l1 h_l2 (by omega) (by omega) (by omega) (by omega)) (by decide)
      · skip
        replace c_5 := i_nle c_5
        rw [L2_99] at c_5
        exact v_PV (S1 := 216172782113783808) (y_rf0 _ _) (S_X12_promptsYear_b68 hk23 hk31 H h_l1 h_l2 (by omega) (by decide) (by omega) (by omega)) (by decide)
theorem S_X12_promptsYear_L31 {k23 : Option Nat → Int32 → Int32 → gM → Option gM} {m23 : Int} (hk23 : ∀ {l1 : Int32} {l2 : Int32} {M : gM}, y_HT M → (0 ≤ l1.toInt ∧ l1.toInt ≤ 44) → (1 ≤ l2.toInt ∧ l2.toInt ≤ 100) → 100 - l2.toInt < m23 → Ok (k23 (some 175) l1 l2 M) (y_PV 216172782113783808 M)) : ∀ (n : Nat) {l1 : Int32} {l2 : Int32} {l3 : Int32} {M : gM}, y_HT M → (0 ≤ l1.toInt ∧ l1.toInt ≤ 44) → (1 ≤ l2.toInt ∧ l2.toInt ≤ 99) → (0 ≤ l3.toInt ∧ l3.toInt ≤ 11) → 100 - l2.toInt ≤ m23 → 11 - l3.toInt < (n : Int) → Ok (F_X12_promptsYear_L31 k23 n (some 175) l1 l2 l3 M) (y_PV 216172782113783808 M) := by
  intro n
  induction n with
  | zero =>
    intro l1 l2 l3 M H h_l1 h_l2 h_l3 hm23 hm
    exfalso
    omega
  | succ n ih =>
    intro l1 l2 l3 M H h_l1 h_l2 h_l3 hm23 hm
    exact S_X12_promptsYear_b31 (m31 := 11 - l3.toInt) hk23 (fun H h_l1 h_l2 h_l3 hm23 hmz => ih H h_l1 h_l2 h_l3 hm23 (by omega)) H h_l1 h_l2 h_l3 hm23 (Int.le_refl _)
theorem S_X12_promptsYear_b23 {k23 : Option Nat → Int32 → Int32 → gM → Option gM} {m23 : Int} {l1 : Int32} {l2 : Int32} {M : gM} (hk23 : ∀ {l1 : Int32} {l2 : Int32} {M : gM}, y_HT M → (0 ≤ l1.toInt ∧ l1.toInt ≤ 44) → (1 ≤ l2.toInt ∧ l2.toInt ≤ 100) → 100 - l2.toInt < m23 → Ok (k23 (some 175) l1 l2 M) (y_PV 216172782113783808 M)) (H : y_HT M) (h_l1 : 0 ≤ l1.toInt ∧ l1.toInt ≤ 44) (h_l2 : 1 ≤ l2.toInt ∧ l2.toInt ≤ 100) (hm23 : 100 - l2.toInt ≤ m23) : Ok (F_X12_promptsYear_b23 k23 (some 175) l1 l2 M) (y_PV 216172782113783808 M) := by
  delta F_X12_promptsYear_b23
  refine Ok_i (fun c_1 => ?_) (fun c_1 => ?_)
  · skip
    replace c_1 := i_lt c_1
    rw [L2_99] at c_1
    exact v_PV (S1 := 216172782113783808) (y_rf0 _ _) (S_X12_promptsYear_L134  g_fuel H (by decide) (q_fu (by rw [L2_0]; omega))) (by decide)
  · skip
    replace c_1 := i_nlt c_1
    rw [L2_99] at c_1
    exact v_PV (S1 := 216172782113783808) (y_rf0 _ _) (S_X12_promptsYear_L31 hk23 g_fuel H h_l1 (by omega) (by decide) (by omega) (q_fu (by rw [L2_0]; omega))) (by decide)
theorem S_X12_promptsYear_L23 : ∀ (n : Nat) {l1 : Int32} {l2 : Int32} {M : gM}, y_HT M → (0 ≤ l1.toInt ∧ l1.toInt ≤ 44) → (1 ≤ l2.toInt ∧ l2.toInt ≤ 100) → 100 - l2.toInt < (n : Int) → Ok (F_X12_promptsYear_L23 n (some 175) l1 l2 M) (y_PV 216172782113783808 M) := by
  intro n
  induction n with
  | zero =>
    intro l1 l2 M H h_l1 h_l2  hm
    exfalso
    omega
  | succ n ih =>
    intro l1 l2 M H h_l1 h_l2  hm
    exact S_X12_promptsYear_b23 (m23 := 100 - l2.toInt) (fun H h_l1 h_l2  hmz => ih H h_l1 h_l2  (by omega)) H h_l1 h_l2  (Int.le_refl _)
theorem S_X12_promptsYear_b2 {k2 : Option Nat → Int32 → Int32 → gM → Option gM} {m2 : Int} {l1 : Int32} {l2 : Int32} {M : gM} (hk2 : ∀ {l1 : Int32} {l2 : Int32} {M : gM}, y_HT M → (0 ≤ l1.toInt ∧ l1.toInt ≤ 44) → (0 ≤ l2.toInt ∧ l2.toInt ≤ 100) → 100 - l2.toInt < m2 → Ok (k2 (some 175) l1 l2 M) (y_PV 216172782113783808 M)) (H : y_HT M) (h_l1 : 0 ≤ l1.toInt ∧ l1.toInt ≤ 44) (h_l2 : 0 ≤ l2.toInt ∧ l2.toInt ≤ 100) (hm2 : 100 - l2.toInt ≤ m2) : Ok (F_X12_promptsYear_b2 k2 (some 175) l1 l2 M) (y_PV 216172782113783808 M) := by
  delta F_X12_promptsYear_b2
  refine Ok_i (fun c_1 => ?_) (fun c_1 => ?_)
  · skip
    replace c_1 := i_lt c_1
    rw [L2_99] at c_1
    exact v_PV (S1 := 216172782113783808) (y_rf0 _ _) (S_X12_promptsYear_L23  g_fuel H h_l1 (by decide) (q_fu (by rw [L2_1]; omega))) (by decide)
  · skip
    replace c_1 := i_nlt c_1
    rw [L2_99] at c_1
    refine y_gR (w := 192) H rfl (by decide) ?_
    refine y_sI (S := 216172782113783808) H (i := 192) (n := 100) rfl (by omega) (by omega) (y_full rfl) (by decide) (fun M2 HM2 fM2 q_M2 o_M2 l_M2 => ?_)
    have a_2 := i_addc (x := l2) (c := 1) L2_1 (by omega) (by omega)
    exact v_PV (S1 := 216172782113783808) fM2 (hk2 HM2 h_l1 (by omega) (by omega)) (by decide)
theorem S_X12_promptsYear_L2 : ∀ (n : Nat) {l1 : Int32} {l2 : Int32} {M : gM}, y_HT M → (0 ≤ l1.toInt ∧ l1.toInt ≤ 44) → (0 ≤ l2.toInt ∧ l2.toInt ≤ 100) → 100 - l2.toInt < (n : Int) → Ok (F_X12_promptsYear_L2 n (some 175) l1 l2 M) (y_PV 216172782113783808 M) := by
  intro n
  induction n with
  | zero =>
    intro l1 l2 M H h_l1 h_l2  hm
    exfalso
    omega
  | succ n ih =>
    intro l1 l2 M H h_l1 h_l2  hm
    exact S_X12_promptsYear_b2 (m2 := 100 - l2.toInt) (fun H h_l1 h_l2  hmz => ih H h_l1 h_l2  (by omega)) H h_l1 h_l2  (Int.le_refl _)
theorem S_X12_promptsYear_b0 {l1 : Int32} {M : gM} (H : y_HT M) (h_l1 : 0 ≤ l1.toInt ∧ l1.toInt ≤ 44) : Ok (F_X12_promptsYear_b0 (some 175) l1 M) (y_PV 216172782113783808 M) := by
  delta F_X12_promptsYear_b0
  exact v_PV (S1 := 216172782113783808) (y_rf0 _ _) (S_X12_promptsYear_L2  g_fuel H h_l1 (by decide) (q_fu (by rw [L2_0]; omega))) (by decide)
theorem S_X12_promptsYear {l1 : Int32} {M : gM} (H : y_HT M) (h_l1 : 0 ≤ l1.toInt ∧ l1.toInt ≤ 44) : Ok (F_X12_promptsYear (some 175) l1 M) (y_PV 216172782113783808 M) := by
  delta F_X12_promptsYear
  exact v_PV (S1 := 216172782113783808) (y_rf0 _ _) (S_X12_promptsYear_b0  H h_l1) (by decide)
theorem S_X12_prompts_b37  {M : gM} (H : y_HT M) : Ok (F_X12_prompts_b37 M) (y_PI 216172782113783808 M (-2147483648) (2147483647)) := by
  delta F_X12_prompts_b37
  exact z_PI (i_rng _) H (y_rf0 _ _)
theorem S_X12_prompts_b196 {k153 : Option Nat → Int32 → Int32 → gM → Option (Int32 × gM)} {m153 : Int} {l5 : Int32} {l6 : Int32} {M : gM} (hk153 : ∀ {l5 : Int32} {l6 : Int32} {M : gM}, y_HT M → (1 ≤ l6.toInt ∧ l6.toInt ≤ 100) → 100 - l6.toInt < m153 → Ok (k153 (some 175) l5 l6 M) (y_PI 216172782113783808 M (-2147483648) (2147483647))) (H : y_HT M) (h_l6 : 1 ≤ l6.toInt ∧ l6.toInt ≤ 99) (hm153 : 100 - l6.toInt ≤ m153) : Ok (F_X12_prompts_b196 k153 (some 175) l5 l6 M) (y_PI 216172782113783808 M (-2147483648) (2147483647)) := by
  delta F_X12_prompts_b196
  have a_1 := i_addc (x := l6) (c := 1) L2_1 (by omega) (by omega)
  exact v_PI (S1 := 216172782113783808) (y_rf0 _ _) (hk153 H (by omega) (by omega)) (by decide) (by decide) (by decide)
theorem S_X12_prompts_b187 {k153 : Option Nat → Int32 → Int32 → gM → Option (Int32 × gM)} {m153 : Int} {l6 : Int32} {M : gM} (hk153 : ∀ {l5 : Int32} {l6 : Int32} {M : gM}, y_HT M → (1 ≤ l6.toInt ∧ l6.toInt ≤ 100) → 100 - l6.toInt < m153 → Ok (k153 (some 175) l5 l6 M) (y_PI 216172782113783808 M (-2147483648) (2147483647))) (H : y_HT M) (h_l6 : 1 ≤ l6.toInt ∧ l6.toInt ≤ 99) (hm153 : 100 - l6.toInt ≤ m153) : Ok (F_X12_prompts_b187 k153 (some 175) l6 M) (y_PI 216172782113783808 M (-2147483648) (2147483647)) := by
  delta F_X12_prompts_b187
  refine y_gR (w := 191) H rfl (by decide) ?_
  refine y_aI H (i := 191) (n := 100) rfl (by decide) (by omega) (by omega) (fun v2 q_v2 => ?_)
  exact v_PI (S1 := 216172782113783808) (y_rf0 _ _) (S_X12_prompts_b196 hk153 H h_l6 (by omega)) (by decide) (by decide) (by decide)
set_option maxHeartbeats 1000000 in
theorem S_X12_prompts_b153 {k153 : Option Nat → Int32 → Int32 → gM → Option (Int32 × gM)} {m153 : Int} {l5 : Int32} {l6 : Int32} {M : gM} (hk153 : ∀ {l5 : Int32} {l6 : Int32} {M : gM}, y_HT M → (1 ≤ l6.toInt ∧ l6.toInt ≤ 100) → 100 - l6.toInt < m153 → Ok (k153 (some 175) l5 l6 M) (y_PI 216172782113783808 M (-2147483648) (2147483647))) (H : y_HT M) (h_l6 : 1 ≤ l6.toInt ∧ l6.toInt ≤ 100) (hm153 : 100 - l6.toInt ≤ m153) : Ok (F_X12_prompts_b153 k153 (some 175) l5 l6 M) (y_PI 216172782113783808 M (-2147483648) (2147483647)) := by
  delta F_X12_prompts_b153
  refine Ok_i (fun c_1 => ?_) (fun c_1 => ?_)
  · skip
    replace c_1 := i_lt c_1
    rw [L2_99] at c_1
    exact z_PI (i_rng _) H (y_rf0 _ _)
  · skip
    replace c_1 := i_nlt c_1
    rw [L2_99] at c_1
    refine y_gR (w := 191) H rfl (by decide) ?_
    refine y_aI H (i := 191) (n := 100) rfl (by decide) (by omega) (by omega) (fun v2 q_v2 => ?_)
    refine Ok_i (fun c_2 => ?_) (fun c_2 => ?_)
    · skip
      replace c_2 := i_lt c_2
      rw [L2_0] at c_2
      exact v_PI (S1 := 216172782113783808) (y_rf0 _ _) (S_X12_prompts_b196 hk153 H (by omega) (by omega)) (by decide) (by decide) (by decide)
    · skip
      replace c_2 := i_nlt c_2
      rw [L2_0] at c_2
      refine Ok_i (fun c_3 => ?_) (fun c_3 => ?_)
      · skip
        replace c_3 := i_lt c_3
        rw [L2_0] at c_3
        exact v_PI (S1 := 216172782113783808) (y_rf0 _ _) (S_X12_prompts_b187 hk153 H (by omega) (by omega)) (by decide) (by decide) (by decide)
      · skip
        replace c_3 := i_nlt c_3
        rw [L2_0] at c_3
        refine y_gR (w := 191) H rfl (by decide) ?_
        refine y_aI2 H (i := 191) (n := 100) rfl (by decide) (by omega) (by omega) q_v2 (fun v4 e_v4 => ?_)
        have t_v4 := congrArg Int32.toInt e_v4
        have q_v4 := q_v2.trans e_v4.symm
        refine Ok_i (fun c_4 => ?_) (fun c_4 => ?_)
        · skip
          replace c_4 := i_le c_4
          exact v_PI (S1 := 216172782113783808) (y_rf0 _ _) (S_X12_prompts_b196 hk153 H (by omega) (by omega)) (by decide) (by decide) (by decide)
        · skip
          replace c_4 := i_nle c_4
          exact v_PI (S1 := 216172782113783808) (y_rf0 _ _) (S_X12_prompts_b187 hk153 H (by omega) (by omega)) (by decide) (by decide) (by decide)
theorem S_X12_prompts_L153 : ∀ (n : Nat) {l5 : Int32} {l6 : Int32} {M : gM}, y_HT M → (1 ≤ l6.toInt ∧ l6.toInt ≤ 100) → 100 - l6.toInt < (n : Int) → Ok (F_X12_prompts_L153 n (some 175) l5 l6 M) (y_PI 216172782113783808 M (-2147483648) (2147483647)) := by
  intro n
  induction n with
  | zero =>
    intro l5 l6 M H h_l6  hm
    exfalso
    omega
  | succ n ih =>
    intro l5 l6 M H h_l6  hm
    exact S_X12_prompts_b153 (m153 := 100 - l6.toInt) (fun H h_l6  hmz => ih H h_l6  (by omega)) H h_l6  (Int.le_refl _)
theorem S_X12_prompts_b138 {k104 : Option Nat → Int32 → Int32 → Int32 → Int32 → Int32 → gM → Option (Int32 × gM)} {m104 : Int} {l1 : Int32} {l2 : Int32} {l3 : Int32} {l5 : Int32} {s0 : Int32} {M : gM} (hk104 : ∀ {l1 : Int32} {l2 : Int32} {l3 : Int32} {l4 : Int32} {l5 : Int32} {M : gM}, y_HT M → (0 ≤ l1.toInt ∧ l1.toInt ≤ 6) → (0 ≤ l2.toInt ∧ l2.toInt ≤ 6) → (1 ≤ l3.toInt ∧ l3.toInt ≤ 40) → (0 ≤ l4.toInt ∧ l4.toInt ≤ 99) → (0 ≤ l5.toInt ∧ l5.toInt ≤ 40) → 40 - l5.toInt < m104 → Ok (k104 (some 175) l1 l2 l3 l4 l5 M) (y_PI 216172782113783808 M (-2147483648) (2147483647))) (H : y_HT M) (h_l1 : 0 ≤ l1.toInt ∧ l1.toInt ≤ 6) (h_l2 : 0 ≤ l2.toInt ∧ l2.toInt ≤ 6) (h_l3 : 1 ≤ l3.toInt ∧ l3.toInt ≤ 40) (h_l5 : 0 ≤ l5.toInt ∧ l5.toInt ≤ 39) (h_s0 : 1 ≤ s0.toInt ∧ s0.toInt ≤ 99) (hm104 : 40 - l5.toInt ≤ m104) : Ok (F_X12_prompts_b138 k104 (some 175) l1 l2 l3 l5 s0 M) (y_PI 216172782113783808 M (-2147483648) (2147483647)) := by
  delta F_X12_prompts_b138
  have a_1 := i_addc (x := l5) (c := 1) L2_1 (by omega) (by omega)
  exact v_PI (S1 := 216172782113783808) (y_rf0 _ _) (hk104 H h_l1 h_l2 h_l3 (by omega) (by omega) (by omega)) (by decide) (by decide) (by decide)
set_option maxHeartbeats 1000000 in
theorem S_X12_prompts_b104 {k104 : Option Nat → Int32 → Int32 → Int32 → Int32 → Int32 → gM → Option (Int32 × gM)} {m104 : Int} {l1 : Int32} {l2 : Int32} {l3 : Int32} {l4 : Int32} {l5 : Int32} {M : gM} (hk104 : ∀ {l1 : Int32} {l2 : Int32} {l3 : Int32} {l4 : Int32} {l5 : Int32} {M : gM}, y_HT M → (0 ≤ l1.toInt ∧ l1.toInt ≤ 6) → (0 ≤ l2.toInt ∧ l2.toInt ≤ 6) → (1 ≤ l3.toInt ∧ l3.toInt ≤ 40) → (0 ≤ l4.toInt ∧ l4.toInt ≤ 99) → (0 ≤ l5.toInt ∧ l5.toInt ≤ 40) → 40 - l5.toInt < m104 → Ok (k104 (some 175) l1 l2 l3 l4 l5 M) (y_PI 216172782113783808 M (-2147483648) (2147483647))) (H : y_HT M) (h_l1 : 0 ≤ l1.toInt ∧ l1.toInt ≤ 6) (h_l2 : 0 ≤ l2.toInt ∧ l2.toInt ≤ 6) (h_l3 : 1 ≤ l3.toInt ∧ l3.toInt ≤ 40) (h_l4 : 0 ≤ l4.toInt ∧ l4.toInt ≤ 99) (h_l5 : 0 ≤ l5.toInt ∧ l5.toInt ≤ 40) (hm104 : 40 - l5.toInt ≤ m104) : Ok (F_X12_prompts_b104 k104 (some 175) l1 l2 l3 l4 l5 M) (y_PI 216172782113783808 M (-2147483648) (2147483647)) := by
  delta F_X12_prompts_b104
  refine Ok_i (fun c_1 => ?_) (fun c_1 => ?_)
  · skip
    replace c_1 := i_le c_1
    exact v_PI (S1 := 216172782113783808) (y_rf0 _ _) (S_X12_prompts_L153  g_fuel H (by decide) (q_fu (by rw [L2_1]; omega))) (by decide) (by decide) (by decide)
  · skip
    replace c_1 := i_nle c_1
    refine y_gO H ?_
    refine Ok_b (S_X12_fades H h_l1 h_l2 h_l4) (fun v2 e_v2 => ?_)
    replace e_v2 := q_un e_v2
    refine Ok_b (S_X12_promptsYear H e_v2) (fun M3 zM3 => ?_)
    obtain ⟨HM3, fM3⟩ := zM3
    refine Ok_i (fun c_2 => ?_) (fun c_2 => ?_)
    · skip
      replace c_2 := i_le c_2
      rw [L2_99] at c_2
      exact v_PI (S1 := 216172782113783808) fM3 (S_X12_prompts_b138 hk104 HM3 h_l1 h_l2 h_l3 (by omega) (by decide) (by omega)) (by decide) (by decide) (by decide)
    · skip
      replace c_2 := i_nle c_2
      rw [L2_99] at c_2
      have a_3 := i_addc (x := l4) (c := (1 : Int32)) L2_1 (by omega) (by omega)
      exact v_PI (S1 := 216172782113783808) fM3 (S_X12_prompts_b138 hk104 HM3 h_l1 h_l2 h_l3 (by omega) (by omega) (by omega)) (by decide) (by decide) (by decide)
theorem S_X12_prompts_L104 : ∀ (n : Nat) {l1 : Int32} {l2 : Int32} {l3 : Int32} {l4 : Int32} {l5 : Int32} {M : gM}, y_HT M → (0 ≤ l1.toInt ∧ l1.toInt ≤ 6) → (0 ≤ l2.toInt ∧ l2.toInt ≤ 6) → (1 ≤ l3.toInt ∧ l3.toInt ≤ 40) → (0 ≤ l4.toInt ∧ l4.toInt ≤ 99) → (0 ≤ l5.toInt ∧ l5.toInt ≤ 40) → 40 - l5.toInt < (n : Int) → Ok (F_X12_prompts_L104 n (some 175) l1 l2 l3 l4 l5 M) (y_PI 216172782113783808 M (-2147483648) (2147483647)) := by
  intro n
  induction n with
  | zero =>
    intro l1 l2 l3 l4 l5 M H h_l1 h_l2 h_l3 h_l4 h_l5  hm
    exfalso
    omega
  | succ n ih =>
    intro l1 l2 l3 l4 l5 M H h_l1 h_l2 h_l3 h_l4 h_l5  hm
    exact S_X12_prompts_b104 (m104 := 40 - l5.toInt) (fun H h_l1 h_l2 h_l3 h_l4 h_l5  hmz => ih H h_l1 h_l2 h_l3 h_l4 h_l5  (by omega)) H h_l1 h_l2 h_l3 h_l4 h_l5  (Int.le_refl _)
theorem S_X12_prompts_b81 {k52 : Option Nat → Int32 → Int32 → Int32 → Int32 → gM → Option (Int32 × gM)} {m52 : Int} {l1 : Int32} {l2 : Int32} {l3 : Int32} {l4 : Int32} {s1 : Int32} {s2 : Int32} {M : gM} (hk52 : ∀ {l1 : Int32} {l2 : Int32} {l3 : Int32} {l4 : Int32} {M : gM}, y_HT M → (0 ≤ l1.toInt ∧ l1.toInt ≤ 6) → (0 ≤ l2.toInt ∧ l2.toInt ≤ 6) → (1 ≤ l3.toInt ∧ l3.toInt ≤ 40) → (0 ≤ l4.toInt ∧ l4.toInt ≤ 100) → 100 - l4.toInt < m52 → Ok (k52 (some 175) l1 l2 l3 l4 M) (y_PI 216172782113783808 M (-2147483648) (2147483647))) (H : y_HT M) (h_l1 : 0 ≤ l1.toInt ∧ l1.toInt ≤ 6) (h_l2 : 0 ≤ l2.toInt ∧ l2.toInt ≤ 6) (h_l3 : 1 ≤ l3.toInt ∧ l3.toInt ≤ 40) (h_l4 : 0 ≤ l4.toInt ∧ l4.toInt ≤ 99) (h_s1 : 0 ≤ s1.toInt ∧ s1.toInt ≤ 99) (h_s2 : -1 ≤ s2.toInt ∧ s2.toInt ≤ 0) (hm52 : 100 - l4.toInt ≤ m52) : Ok (F_X12_prompts_b81 k52 (some 175) l1 l2 l3 l4 (some 191) s1 s2 M) (y_PI 216172782113783808 M (-2147483648) (2147483647)) := by
  delta F_X12_prompts_b81
  refine y_sI (S := 216172782113783808) H (i := 191) (n := 100) rfl (by omega) (by omega) (y_full rfl) (by decide) (fun M1 HM1 fM1 q_M1 o_M1 l_M1 => ?_)
  have a_1 := i_addc (x := l4) (c := 1) L2_1 (by omega) (by omega)
  exact v_PI (S1 := 216172782113783808) fM1 (hk52 HM1 h_l1 h_l2 h_l3 (by omega) (by omega)) (by decide) (by decide) (by decide)
set_option maxHeartbeats 1000000 in
theorem S_X12_prompts_b52 {k52 : Option Nat → Int32 → Int32 → Int32 → Int32 → gM → Option (Int32 × gM)} {m52 : Int} {l1 : Int32} {l2 : Int32} {l3 : Int32} {l4 : Int32} {M : gM} (hk52 : ∀ {l1 : Int32} {l2 : Int32} {l3 : Int32} {l4 : Int32} {M : gM}, y_HT M → (0 ≤ l1.toInt ∧ l1.toInt ≤ 6) → (0 ≤ l2.toInt ∧ l2.toInt ≤ 6) → (1 ≤ l3.toInt ∧ l3.toInt ≤ 40) → (0 ≤ l4.toInt ∧ l4.toInt ≤ 100) → 100 - l4.toInt < m52 → Ok (k52 (some 175) l1 l2 l3 l4 M) (y_PI 216172782113783808 M (-2147483648) (2147483647))) (H : y_HT M) (h_l1 : 0 ≤ l1.toInt ∧ l1.toInt ≤ 6) (h_l2 : 0 ≤ l2.toInt ∧ l2.toInt ≤ 6) (h_l3 : 1 ≤ l3.toInt ∧ l3.toInt ≤ 40) (h_l4 : 0 ≤ l4.toInt ∧ l4.toInt ≤ 100) (hm52 : 100 - l4.toInt ≤ m52) : Ok (F_X12_prompts_b52 k52 (some 175) l1 l2 l3 l4 M) (y_PI 216172782113783808 M (-2147483648) (2147483647)) := by
  delta F_X12_prompts_b52
  refine Ok_i (fun c_1 => ?_) (fun c_1 => ?_)
  · skip
    replace c_1 := i_lt c_1
    rw [L2_99] at c_1
    refine y_gR (w := 185) H rfl (by decide) ?_
    have a_2 := i_mulL (c := (2 : Int32)) (x := l1) L2_2 (by omega) (by omega)
    have a_3 := i_cadd (c := (38 : Int32)) (x := ((2 : Int32) * l1)) L2_38 (by omega) (by omega)
    refine y_aIr (lo := 0) (hi := 99) H (i := 185) (n := 157) rfl (by decide) (by omega) (by omega) (y_dj38 (p := 185) (l := l1.toInt) rfl (by omega) (by omega)) (fun v2 q_v2 e_v2 => ?_)
    exact v_PI (S1 := 216172782113783808) (y_rf0 _ _) (S_X12_prompts_L104  g_fuel H h_l1 h_l2 h_l3 e_v2 (by decide) (q_fu (by rw [L2_0]; omega))) (by decide) (by decide) (by decide)
  · skip
    replace c_1 := i_nlt c_1
    rw [L2_99] at c_1
    refine y_gR (w := 191) H rfl (by decide) ?_
    refine y_gO H ?_
    refine Ok_b (S_X12_strengthOf H h_l1 h_l2) (fun v5 e_v5 => ?_)
    clear e_v5
    refine Ok_i (fun c_4 => ?_) (fun c_4 => ?_)
    · skip
      replace c_4 := i_eq c_4
      exact v_PI (S1 := 216172782113783808) (y_rf0 _ _) (S_X12_prompts_b81 hk52 H h_l1 h_l2 h_l3 (by omega) (by omega) (by decide) (by omega)) (by decide) (by decide) (by decide)
    · skip
      replace c_4 := i_ne c_4
      exact v_PI (S1 := 216172782113783808) (y_rf0 _ _) (S_X12_prompts_b81 hk52 H h_l1 h_l2 h_l3 (by omega) (by omega) (by decide) (by omega)) (by decide) (by decide) (by decide)
theorem S_X12_prompts_L52 : ∀ (n : Nat) {l1 : Int32} {l2 : Int32} {l3 : Int32} {l4 : Int32} {M : gM}, y_HT M → (0 ≤ l1.toInt ∧ l1.toInt ≤ 6) → (0 ≤ l2.toInt ∧ l2.toInt ≤ 6) → (1 ≤ l3.toInt ∧ l3.toInt ≤ 40) → (0 ≤ l4.toInt ∧ l4.toInt ≤ 100) → 100 - l4.toInt < (n : Int) → Ok (F_X12_prompts_L52 n (some 175) l1 l2 l3 l4 M) (y_PI 216172782113783808 M (-2147483648) (2147483647)) := by
  intro n
  induction n with
  | zero =>
    intro l1 l2 l3 l4 M H h_l1 h_l2 h_l3 h_l4  hm
    exfalso
    omega
  | succ n ih =>
    intro l1 l2 l3 l4 M H h_l1 h_l2 h_l3 h_l4  hm
    exact S_X12_prompts_b52 (m52 := 100 - l4.toInt) (fun H h_l1 h_l2 h_l3 h_l4  hmz => ih H h_l1 h_l2 h_l3 h_l4  (by omega)) H h_l1 h_l2 h_l3 h_l4  (Int.le_refl _)
set_option maxHeartbeats 1000000 in
theorem S_X12_prompts_b0 {l1 : Int32} {l2 : Int32} {l3 : Int32} {M : gM} (H : y_HT M) : Ok (F_X12_prompts_b0 (some 175) l1 l2 l3 M) (y_PI 216172782113783808 M (-2147483648) (2147483647)) := by
  delta F_X12_prompts_b0
  refine y_gO H ?_
  refine Ok_b (S_X12_isHeir H) (fun v2 e_v2 => ?_)
  obtain ⟨e_v2, w_v2⟩ := e_v2
  refine Ok_i (fun c_1 => ?_) (fun c_1 => ?_)
  · skip
    replace c_1 := i_eq c_1
    rw [L2_0] at c_1
    exact v_PI (S1 := 216172782113783808) (y_rf0 _ _) (S_X12_prompts_b37  H) (by decide) (by decide) (by decide)
  · skip
    replace c_1 := i_ne c_1
    rw [L2_0] at c_1
    have x_v2 := w_v2 (by omega)
    refine Ok_b (S_X12_isThing H) (fun v3 e_v3 => ?_)
    obtain ⟨e_v3, w_v3⟩ := e_v3
    refine Ok_i (fun c_2 => ?_) (fun c_2 => ?_)
    · skip
      replace c_2 := i_eq c_2
      rw [L2_0] at c_2
      exact v_PI (S1 := 216172782113783808) (y_rf0 _ _) (S_X12_prompts_b37  H) (by decide) (by decide) (by decide)
    · skip
      replace c_2 := i_ne c_2
      rw [L2_0] at c_2
      have x_v3 := w_v3 (by omega)
      refine Ok_b (S_X12_knowsOf H (by omega) (by omega)) (fun v4 e_v4 => ?_)
      replace e_v4 := q_un e_v4
      refine Ok_i (fun c_3 => ?_) (fun c_3 => ?_)
      · skip
        replace c_3 := i_eq c_3
        rw [L2_0] at c_3
        exact v_PI (S1 := 216172782113783808) (y_rf0 _ _) (S_X12_prompts_b37  H) (by decide) (by decide) (by decide)
      · skip
        replace c_3 := i_ne c_3
        rw [L2_0] at c_3
        refine Ok_b (S_X12_in (lo := 1) (hi := 40) rfl rfl) (fun v5 e_v5 => ?_)
        obtain ⟨e_v5, w_v5⟩ := e_v5
        refine Ok_i (fun c_4 => ?_) (fun c_4 => ?_)
        · skip
          replace c_4 := i_eq c_4
          rw [L2_0] at c_4
          exact v_PI (S1 := 216172782113783808) (y_rf0 _ _) (S_X12_prompts_b37  H) (by decide) (by decide) (by decide)
        · skip
          replace c_4 := i_ne c_4
          rw [L2_0] at c_4
          have x_v5 := w_v5 (by omega)
          refine y_gI (lo := -1) (hi := 5) H rfl (fun v6 q_v6 e_v6 => ?_)
          refine Ok_i (fun c_5 => ?_) (fun c_5 => ?_)
          · skip
            replace c_5 := i_lt c_5
            rw [L2_0] at c_5
            exact v_PI (S1 := 216172782113783808) (y_rf0 _ _) (S_X12_prompts_L52  g_fuel H (by omega) (by omega) (by omega) (by decide) (q_fu (by rw [L2_0]; omega))) (by decide) (by decide) (by decide)
          · skip
            replace c_5 := i_nlt c_5
            rw [L2_0] at c_5
            exact z_PI (i_rng _) H (y_rf0 _ _)
theorem S_X12_prompts {l1 : Int32} {l2 : Int32} {l3 : Int32} {M : gM} (H : y_HT M) : Ok (F_X12_prompts (some 175) l1 l2 l3 M) (y_PI 216172782113783808 M (-2147483648) (2147483647)) := by
  delta F_X12_prompts
  exact v_PI (S1 := 216172782113783808) (y_rf0 _ _) (S_X12_prompts_b0  H) (by decide) (by decide) (by decide)
theorem S_X12_cost_b35  {M : gM} (H : y_HT M) (W : y_W M) : Ok (F_X12_cost_b35 M) (y_PI 12384898975531008 M (-2147483648) (2147483647)) := by
  delta F_X12_cost_b35
  exact z_PI (i_rng _) H (y_rf0 _ _)
theorem S_X12_cost_b74  {M : gM} (H : y_HT M) (W : y_W M) : Ok (F_X12_cost_b74 M) (y_PI 12384898975531008 M (-2147483648) (2147483647)) := by
  delta F_X12_cost_b74
  exact z_PI (i_rng _) H (y_rf0 _ _)
set_option maxHeartbeats 1000000 in
theorem S_X12_cost_b0 {l1 : Int32} {M : gM} (H : y_HT M) (W : y_W M) : Ok (F_X12_cost_b0 (some 175) l1 M) (y_PI 12384898975531008 M (-2147483648) (2147483647)) := by
  delta F_X12_cost_b0
  refine y_gO H ?_
  refine Ok_b (S_X12_isThing H) (fun v2 e_v2 => ?_)
  obtain ⟨e_v2, w_v2⟩ := e_v2
  refine Ok_i (fun c_1 => ?_) (fun c_1 => ?_)
  · skip
    replace c_1 := i_eq c_1
    rw [L2_0] at c_1
    exact z_PI (i_rng _) H (y_rf0 _ _)
  · skip
    replace c_1 := i_ne c_1
    rw [L2_0] at c_1
    have x_v2 := w_v2 (by omega)
    refine y_gR (w := 185) H rfl (by decide) ?_
    refine y_aI H (i := 185) (n := 157) rfl (by decide) (by decide) (by decide) (fun v4 q_v4 => ?_)
    refine Ok_b (S_X12_isOf H) (fun v5 e_v5 => ?_)
    replace e_v5 := q_un e_v5
    refine Ok_i (fun c_2 => ?_) (fun c_2 => ?_)
    · skip
      replace c_2 := i_eq c_2
      rw [L2_0] at c_2
      refine Ok_b (S_X12_thingOf H (by omega) (by decide)) (fun v6 e_v6 => ?_)
      clear e_v6
      refine Ok_i (fun c_3 => ?_) (fun c_3 => ?_)
      · skip
        replace c_3 := i_lt c_3
        rw [L2_0] at c_3
        refine Ok_b (S_X12_keeps H) (fun M7 zM7 => ?_)
        obtain ⟨HM7, fM7⟩ := zM7
        refine y_gC HM7 ?_
        refine Ok_b (S_X12_strikeOf HM7 (by omega) (y_Wf (y_fl (S2 := 12384898975531008) (by decide) fM7) (by decide) W)) (fun yM10 zM10 => ?_)
        obtain ⟨v9, M10⟩ := yM10
        obtain ⟨e_v9, HM10, fM10⟩ := zM10
        try dsimp only at e_v9 HM10 fM10
        have g_4 := y_tr (y_fl (S2 := 12384898975531008) (by decide) fM7) (y_fl (S2 := 12384898975531008) (by decide) fM10)
        refine y_gR (w := 185) HM10 rfl (by decide) ?_
        refine y_aI HM10 (i := 185) (n := 157) rfl (by decide) (by decide) (by decide) (fun v12 q_v12 => ?_)
        refine y_sI (S := 12384898975531008) HM10 (i := 185) (n := 157) rfl (by decide) (by decide) (y_full rfl) (by decide) (fun M13 HM13 fM13 q_M13 o_M13 l_M13 => ?_)
        have g_5 := y_tr g_4 fM13
        refine y_gC HM13 ?_
        refine Ok_b (S_X12_strikeOf HM13 (by omega) (y_Wf g_5 (by decide) W)) (fun yM16 zM16 => ?_)
        obtain ⟨v15, M16⟩ := yM16
        obtain ⟨e_v15, HM16, fM16⟩ := zM16
        try dsimp only at e_v15 HM16 fM16
        have g_6 := y_tr g_5 (y_fl (S2 := 12384898975531008) (by decide) fM16)
        refine Ok_i (fun c_7 => ?_) (fun c_7 => ?_)
        · skip
          replace c_7 := i_lt c_7
          rw [L2_0] at c_7
          exact v_PI (S1 := 12384898975531008) g_6 (S_X12_cost_b74  HM16 (y_Wf g_6 (by decide) W)) (by decide) (by decide) (by decide)
        · skip
          replace c_7 := i_nlt c_7
          rw [L2_0] at c_7
          refine Ok_i (fun c_8 => ?_) (fun c_8 => ?_)
          · skip
            replace c_8 := i_le c_8
            rw [L2_0] at c_8
            have a_9 := i_sub (x := v9) (y := v15) (by omega) (by omega)
            exact z_PI (i_rng _) HM16 g_6
          · skip
            replace c_8 := i_nle c_8
            rw [L2_0] at c_8
            exact v_PI (S1 := 12384898975531008) g_6 (S_X12_cost_b74  HM16 (y_Wf g_6 (by decide) W)) (by decide) (by decide) (by decide)
      · skip
        replace c_3 := i_nlt c_3
        rw [L2_0] at c_3
        exact v_PI (S1 := 12384898975531008) (y_rf0 _ _) (S_X12_cost_b35  H W) (by decide) (by decide) (by decide)
    · skip
      replace c_2 := i_ne c_2
      rw [L2_0] at c_2
      exact v_PI (S1 := 12384898975531008) (y_rf0 _ _) (S_X12_cost_b35  H W) (by decide) (by decide) (by decide)
theorem S_X12_cost {l1 : Int32} {M : gM} (H : y_HT M) (W : y_W M) : Ok (F_X12_cost (some 175) l1 M) (y_PI 12384898975531008 M (-2147483648) (2147483647)) := by
  delta F_X12_cost
  exact v_PI (S1 := 12384898975531008) (y_rf0 _ _) (S_X12_cost_b0  H W) (by decide) (by decide) (by decide)
theorem S_X12_seed {l1 : Int32} {M : gM} (H : y_HT M) : Ok (F_X12_seed (some 175) l1 M) (fun r => (y_HT r.2 ∧ y_Fr 4194304 M r.2) ∧ r.1 = (if 0 ≤ l1 then M.2.1 175 22 else -1) ∧ r.2.2.1 175 22 = (if 0 ≤ l1 then l1 else M.2.1 175 22)) := by
  delta F_X12_seed F_X12_seed_b0
  by_cases c : 0 ≤ l1
  · have c1 := i_le c
    rw [L2_0] at c1
    rw [if_pos c, if_pos c, if_pos c]
    refine y_gI (lo := 0) (hi := 2147483647) H rfl (fun v1 q1 e1 => ?_)
    refine y_pI (S := 4194304) (lo := 0) (hi := 2147483647) H rfl ⟨c1, (i_rng _).2⟩ (by decide) (fun M2 H2 f2 q2 o2 l2 => ?_)
    exact Ok_s ⟨⟨H2, f2⟩, q1.symm, q2⟩
  · rw [if_neg c, if_neg c, if_neg c]
    exact Ok_s ⟨⟨H, y_rf0 _ _⟩, rfl, rfl⟩
theorem j_mod {x c : Int64} (hx : 0 ≤ x.toInt) (hc : 0 < c.toInt) : (x - x / c * c).toInt = x.toInt % c.toInt := by
  have hb := Int64.toInt_le x
  have h9 : x.toInt ≤ 9223372036854775807 := hb
  have e2 : 0 ≤ x.toInt / c.toInt := Int.ediv_nonneg hx (by omega)
  have e3 : x.toInt / c.toInt ≤ x.toInt := Int.ediv_le_self _ hx
  have h3 : (x / c).toInt = x.toInt / c.toInt := by
    rw [Int64.toInt_div, Int.tdiv_eq_ediv_of_nonneg hx]
    exact j_bm (by omega) (by omega)
  have e4 : x.toInt % c.toInt = x.toInt - c.toInt * (x.toInt / c.toInt) := Int.emod_def _ _
  have e5 : 0 ≤ x.toInt % c.toInt := Int.emod_nonneg _ (by omega)
  have e6 : 0 ≤ c.toInt * (x.toInt / c.toInt) := Int.mul_nonneg (by omega) e2
  have h4 : (x / c * c).toInt = c.toInt * (x.toInt / c.toInt) := by
    rw [Int64.toInt_mul, h3, Int.mul_comm]
    exact j_bm (by omega) (by omega)
  rw [Int64.toInt_sub, h4, ← e4]
  exact j_bm (by omega) (by omega)
theorem S_X12_draw {S : Nat} {l1 : Int32} {M : gM} (H : y_HT M) (h : 1 ≤ l1.toInt) : Ok (F_X12_draw (some 175) l1 M) (fun r => (y_HT r.2 ∧ y_Fr S M r.2) ∧ r.2.2.1 = M.2.1 ∧ (0 ≤ r.1.toInt ∧ r.1.toInt < l1.toInt)) := by
  delta F_X12_draw F_X12_draw_b0
  have z31 : (2147483648 : Int64).toInt = 2147483648 := rfl
  have z16 : (65536 : Int64).toInt = 65536 := rfl
  refine y_gL H (fun v1 q1 => ?_)
  have hv := H.2.2
  rw [q1] at hv
  have h1 : (v1 * (1103515245 : Int64)).toInt = v1.toInt * 1103515245 := by
    rw [Int64.toInt_mul]
    exact j_bm (by show -9223372036854775808 ≤ v1.toInt * 1103515245; omega) (by show v1.toInt * 1103515245 ≤ 9223372036854775807; omega)
  have h2 : (v1 * (1103515245 : Int64) + (12345 : Int64)).toInt = v1.toInt * 1103515245 + 12345 := by
    rw [Int64.toInt_add, h1]
    exact j_bm (by show -9223372036854775808 ≤ v1.toInt * 1103515245 + 12345; omega) (by show v1.toInt * 1103515245 + 12345 ≤ 9223372036854775807; omega)
  have h5 := j_mod (x := v1 * (1103515245 : Int64) + (12345 : Int64)) (c := (2147483648 : Int64)) (by omega) (by decide)
  rw [h2, z31] at h5
  refine y_pL (S := S) H (fun _ => by omega) (fun M2 H2 f2 o2 q2 => ?_)
  refine y_gL H2 (fun v3 q3 => ?_)
  have e3 : v3.toInt = (v1.toInt * 1103515245 + 12345) % 2147483648 := by rw [← q3, q2, h5]
  have hl : (l1.toInt64).toInt = l1.toInt := Int32.toInt_toInt64 l1
  refine Ok_e (fun e => ?_) ?_
  · rw [e] at hl
    have z : (0 : Int64).toInt = 0 := rfl
    omega
  have d1 : (v3 / (65536 : Int64)).toInt = v3.toInt / 65536 := by
    rw [Int64.toInt_div, z16, Int.tdiv_eq_ediv_of_nonneg (by omega)]
    exact j_bm (by omega) (by omega)
  have d2 := j_mod (x := v3 / (65536 : Int64)) (c := l1.toInt64) (by omega) (by omega)
  have d3 : 0 ≤ (v3 / (65536 : Int64)).toInt % l1.toInt64.toInt := Int.emod_nonneg _ (by omega)
  have d4 : (v3 / (65536 : Int64)).toInt % l1.toInt64.toInt < l1.toInt64.toInt := Int.emod_lt_of_pos _ (by omega)
  have hr := i_rng l1
  refine Ok_s ⟨⟨H2, f2⟩, o2, ?_⟩
  dsimp only
  rw [Int64.toInt_toInt32, d2, i_bm (by omega) (by omega)]
  omega
theorem S_X12_drinks_b70 {k2 : Option Nat → Int32 → gM → Option gM} {m2 : Int} {l1 : Int32} {M : gM} (hk2 : ∀ {l1 : Int32} {M : gM}, y_HT M → (0 ≤ l1.toInt ∧ l1.toInt ≤ 7) → 7 - l1.toInt < m2 → Ok (k2 (some 175) l1 M) (y_PV 1125899906842624 M)) (H : y_HT M) (h_l1 : 0 ≤ l1.toInt ∧ l1.toInt ≤ 6) (hm2 : 7 - l1.toInt ≤ m2) : Ok (F_X12_drinks_b70 k2 (some 175) l1 M) (y_PV 1125899906842624 M) := by
  delta F_X12_drinks_b70
  have a_1 := i_addc (x := l1) (c := 1) L2_1 (by omega) (by omega)
  exact v_PV (S1 := 1125899906842624) (y_rf0 _ _) (hk2 H (by omega) (by omega)) (by decide)
theorem S_X12_drinks_b48 {k2 : Option Nat → Int32 → gM → Option gM} {m2 : Int} {l1 : Int32} {s0 : Int32} {M : gM} (hk2 : ∀ {l1 : Int32} {M : gM}, y_HT M → (0 ≤ l1.toInt ∧ l1.toInt ≤ 7) → 7 - l1.toInt < m2 → Ok (k2 (some 175) l1 M) (y_PV 1125899906842624 M)) (H : y_HT M) (h_l1 : 0 ≤ l1.toInt ∧ l1.toInt ≤ 6) (h_s0 : 0 ≤ s0.toInt ∧ s0.toInt ≤ 1) (hm2 : 7 - l1.toInt ≤ m2) (hs9 : ¬ s0 = 0 → 1 ≤ (M.2.1 185 1).toInt) : Ok (F_X12_drinks_b48 k2 (some 175) l1 s0 M) (y_PV 1125899906842624 M) := by
  delta F_X12_drinks_b48
  refine Ok_i (fun c => ?_) (fun c => ?_)
  · exact S_X12_drinks_b70 hk2 H (by omega) (by omega)
  · refine y_gR (w := 185) H rfl (by decide) ?_
    refine y_aIr (lo := 0) (hi := 7) H (i := 185) (n := 157) rfl (by decide) (by decide) (by decide) rfl (fun v2 q2 e2 => ?_)
    have q2' : M.2.1 185 1 = v2 := q2
    have h9 := hs9 c
    rw [q2'] at h9
    refine y_gO H ?_
    refine Ok_b (S_X12_draw (S := 1125899906842624) H h9) (fun y z => ?_)
    obtain ⟨v4, M5⟩ := y
    obtain ⟨⟨H5, f5⟩, o5, e5⟩ := z
    dsimp only at H5 f5 o5 e5
    refine y_gC H5 ?_
    refine Ok_b (S_X12_knowsNow H5 (by omega) (by omega)) (fun M7 z => ?_)
    obtain ⟨H7, f7⟩ := z
    exact v_PV (S1 := 1125899906842624) (y_tr f5 f7) (S_X12_drinks_b70 hk2 H7 (by omega) (by omega)) (by decide)
theorem S_X12_drinks_b47 {k2 : Option Nat → Int32 → gM → Option gM} {m2 : Int} {l1 : Int32} {M : gM} (hk2 : ∀ {l1 : Int32} {M : gM}, y_HT M → (0 ≤ l1.toInt ∧ l1.toInt ≤ 7) → 7 - l1.toInt < m2 → Ok (k2 (some 175) l1 M) (y_PV 1125899906842624 M)) (H : y_HT M) (h_l1 : 0 ≤ l1.toInt ∧ l1.toInt ≤ 6) (hm2 : 7 - l1.toInt ≤ m2) : Ok (F_X12_drinks_b47 k2 (some 175) l1 M) (y_PV 1125899906842624 M) := by
  delta F_X12_drinks_b47
  exact v_PV (S1 := 1125899906842624) (y_rf0 _ _) (S_X12_drinks_b48 (s0 := (0 : Int32)) hk2 H h_l1 (by decide) (by omega) (fun e => absurd rfl e)) (by decide)
set_option maxHeartbeats 1000000 in
theorem S_X12_drinks_b2 {k2 : Option Nat → Int32 → gM → Option gM} {m2 : Int} {l1 : Int32} {M : gM} (hk2 : ∀ {l1 : Int32} {M : gM}, y_HT M → (0 ≤ l1.toInt ∧ l1.toInt ≤ 7) → 7 - l1.toInt < m2 → Ok (k2 (some 175) l1 M) (y_PV 1125899906842624 M)) (H : y_HT M) (h_l1 : 0 ≤ l1.toInt ∧ l1.toInt ≤ 7) (hm2 : 7 - l1.toInt ≤ m2) : Ok (F_X12_drinks_b2 k2 (some 175) l1 M) (y_PV 1125899906842624 M) := by
  delta F_X12_drinks_b2
  refine y_gR (w := 185) H rfl (by decide) ?_
  refine y_aIr (lo := 0) (hi := 7) H (i := 185) (n := 157) rfl (by decide) (by decide) (by decide) rfl (fun v2 q2 e2 => ?_)
  refine Ok_i (fun c => ?_) (fun c => ?_)
  · exact z_PV H (y_rf0 _ _)
  · replace c := i_nle c
    refine y_gO H ?_
    refine Ok_b (S_X12_draw (S := 1125899906842624) (l1 := (100 : Int32)) H (by decide)) (fun y z => ?_)
    obtain ⟨v4, M5⟩ := y
    obtain ⟨⟨H5, f5⟩, o5, e5⟩ := z
    dsimp only at H5 f5 o5 e5
    have a1 := i_mulL (c := (2 : Int32)) (x := l1) (n := 2) rfl (by omega) (by omega)
    have a2 := i_cadd (c := (38 : Int32)) (x := (2 : Int32) * l1) (n := 38) rfl (by omega) (by omega)
    have a3 := i_addc (x := (38 : Int32) + (2 : Int32) * l1) (c := (1 : Int32)) L2_1 (by omega) (by omega)
    refine y_gR (w := 185) H5 rfl (by decide) ?_
    refine y_aI H5 (i := 185) (n := 157) rfl (by decide) (by omega) (by omega) (fun v7 q7 => ?_)
    refine Ok_i (fun c2 => ?_) (fun c2 => ?_)
    · exact v_PV (S1 := 1125899906842624) f5 (S_X12_drinks_b48 hk2 H5 (by omega) (by decide) (by omega) (fun e => absurd rfl e)) (by decide)
    · refine y_gR (w := 185) H5 rfl (by decide) ?_
      refine y_aIr (lo := 0) (hi := 7) H5 (i := 185) (n := 157) rfl (by decide) (by decide) (by decide) rfl (fun v9 q9 e9 => ?_)
      have q9' : M5.2.1 185 1 = v9 := q9
      refine Ok_i (fun c3 => ?_) (fun c3 => ?_)
      · exact v_PV (S1 := 1125899906842624) f5 (S_X12_drinks_b48 hk2 H5 (by omega) (by decide) (by omega) (fun e => absurd rfl e)) (by decide)
      · replace c3 := i_nle c3
        rw [L2_0] at c3
        exact v_PV (S1 := 1125899906842624) f5 (S_X12_drinks_b48 hk2 H5 (by omega) (by decide) (by omega) (fun _ => by rw [q9']; omega)) (by decide)
theorem S_X12_drinks_L2 : ∀ (n : Nat) {l1 : Int32} {M : gM}, y_HT M → (0 ≤ l1.toInt ∧ l1.toInt ≤ 7) → 7 - l1.toInt < (n : Int) → Ok (F_X12_drinks_L2 n (some 175) l1 M) (y_PV 1125899906842624 M) := by
  intro n
  induction n with
  | zero =>
    intro l1 M H h_l1  hm
    exfalso
    omega
  | succ n ih =>
    intro l1 M H h_l1  hm
    exact S_X12_drinks_b2 (m2 := 7 - l1.toInt) (fun H h_l1  hmz => ih H h_l1  (by omega)) H h_l1  (Int.le_refl _)
theorem S_X12_drinks_b0  {M : gM} (H : y_HT M) : Ok (F_X12_drinks_b0 (some 175) M) (y_PV 1125899906842624 M) := by
  delta F_X12_drinks_b0
  exact v_PV (S1 := 1125899906842624) (y_rf0 _ _) (S_X12_drinks_L2  g_fuel H (by decide) (q_fu (by rw [L2_0]; omega))) (by decide)
theorem S_X12_drinks  {M : gM} (H : y_HT M) : Ok (F_X12_drinks (some 175) M) (y_PV 1125899906842624 M) := by
  delta F_X12_drinks
  exact v_PV (S1 := 1125899906842624) (y_rf0 _ _) (S_X12_drinks_b0  H) (by decide)
theorem S_X12_standing_b31 {k4 : Option Nat → Int32 → Int32 → Option Int32} {m4 : Int} {l2 : Int32} {s0 : Int32} {s1 : Int32} {M : gM} (hk4 : ∀ {l1 : Int32} {l2 : Int32}, y_HT M → (0 ≤ l2.toInt ∧ l2.toInt ≤ 7) → 7 - l2.toInt < m4 → Ok (k4 (some 175) l1 l2) (q_pi (-2147483648) (2147483647))) (H : y_HT M) (h_l2 : 0 ≤ l2.toInt ∧ l2.toInt ≤ 6) (h_s1 : 0 ≤ s1.toInt ∧ s1.toInt ≤ 128) (hm4 : 7 - l2.toInt ≤ m4) : Ok (F_X12_standing_b31 k4 M (some 175) l2 s0 s1) (q_pi (-2147483648) (2147483647)) := by
  delta F_X12_standing_b31
  have a_1 := i_addc (x := l2) (c := 1) L2_1 (by omega) (by omega)
  exact w_pi (hk4 H (by omega) (by omega)) (by decide) (by decide)
set_option maxHeartbeats 1000000 in
theorem S_X12_standing_b4 {k4 : Option Nat → Int32 → Int32 → Option Int32} {m4 : Int} {l1 : Int32} {l2 : Int32} {M : gM} (hk4 : ∀ {l1 : Int32} {l2 : Int32}, y_HT M → (0 ≤ l2.toInt ∧ l2.toInt ≤ 7) → 7 - l2.toInt < m4 → Ok (k4 (some 175) l1 l2) (q_pi (-2147483648) (2147483647))) (H : y_HT M) (h_l2 : 0 ≤ l2.toInt ∧ l2.toInt ≤ 7) (hm4 : 7 - l2.toInt ≤ m4) : Ok (F_X12_standing_b4 k4 M (some 175) l1 l2) (q_pi (-2147483648) (2147483647)) := by
  delta F_X12_standing_b4
  refine y_gR (w := 185) H rfl (by decide) ?_
  refine y_aIr (lo := 0) (hi := 7) H (i := 185) (n := 157) rfl (by decide) (by decide) (by decide) rfl (fun v2 q_v2 e_v2 => ?_)
  refine Ok_i (fun c_1 => ?_) (fun c_1 => ?_)
  · skip
    replace c_1 := i_le c_1
    exact r_pi (i_rng _)
  · skip
    replace c_1 := i_nle c_1
    refine y_gO H ?_
    refine Ok_b (S_X12_thingOf H (by omega) (by decide)) (fun v4 e_v4 => ?_)
    clear e_v4
    refine Ok_i (fun c_2 => ?_) (fun c_2 => ?_)
    · skip
      replace c_2 := i_le c_2
      rw [L2_0] at c_2
      exact w_pi (S_X12_standing_b31 hk4 H (by omega) (by decide) (by omega)) (by decide) (by decide)
    · skip
      replace c_2 := i_nle c_2
      rw [L2_0] at c_2
      have a_3 := i_shl1 (v := l2) (by omega)
      exact w_pi (S_X12_standing_b31 hk4 H (by omega) (by omega) (by omega)) (by decide) (by decide)
theorem S_X12_standing_L4 {M : gM} : ∀ (n : Nat) {l1 : Int32} {l2 : Int32}, y_HT M → (0 ≤ l2.toInt ∧ l2.toInt ≤ 7) → 7 - l2.toInt < (n : Int) → Ok (F_X12_standing_L4 M n (some 175) l1 l2) (q_pi (-2147483648) (2147483647)) := by
  intro n
  induction n with
  | zero =>
    intro l1 l2 H h_l2  hm
    exfalso
    omega
  | succ n ih =>
    intro l1 l2 H h_l2  hm
    exact S_X12_standing_b4 (m4 := 7 - l2.toInt) (fun H h_l2  hmz => ih H h_l2  (by omega)) H h_l2  (Int.le_refl _)
theorem S_X12_standing_b0  {M : gM} (H : y_HT M) : Ok (F_X12_standing_b0 M (some 175)) (q_pi (-2147483648) (2147483647)) := by
  delta F_X12_standing_b0
  exact w_pi (S_X12_standing_L4  g_fuel H (by decide) (q_fu (by rw [L2_0]; omega))) (by decide) (by decide)
theorem S_X12_standing  {M : gM} (H : y_HT M) : Ok (F_X12_standing (some 175) M) (q_pi (-2147483648) (2147483647)) := by
  delta F_X12_standing
  exact w_pi (S_X12_standing_b0  H) (by decide) (by decide)
theorem S_X12_drawn_b41  {M : gM} (H : y_HT M) (W : y_W M) : Ok (F_X12_drawn_b41 M) (y_PI 12384898975531008 M (-2147483648) (2147483647)) := by
  delta F_X12_drawn_b41
  exact z_PI (i_rng _) H (y_rf0 _ _)
set_option maxHeartbeats 1000000 in
theorem S_X12_drawn_b74 {k65 : Option Nat → Int32 → Int32 → Int32 → Int32 → Int32 → Int32 → gM → Option (Int32 × gM)} {m65 : Int} {k74 : Option Nat → Int32 → Int32 → Int32 → Int32 → Int32 → Int32 → Int32 → gM → Option (Int32 × gM)} {m74 : Int} {l1 : Int32} {l2 : Int32} {l3 : Int32} {l4 : Int32} {l5 : Int32} {l6 : Int32} {l7 : Int32} {M : gM} (hk65 : ∀ {l1 : Int32} {l2 : Int32} {l3 : Int32} {l4 : Int32} {l5 : Int32} {l6 : Int32} {M : gM}, y_HT M → (1 ≤ l1.toInt ∧ l1.toInt ≤ 10) → (1 ≤ l2.toInt ∧ l2.toInt ≤ 60) → (0 ≤ l3.toInt ∧ l3.toInt ≤ 1) → (0 ≤ l6.toInt ∧ l6.toInt ≤ 10) → (y_W M) → 10 - l6.toInt < m65 → Ok (k65 (some 175) l1 l2 l3 l4 l5 l6 M) (y_PI 12384898975531008 M (-2147483648) (2147483647))) (hk74 : ∀ {l1 : Int32} {l2 : Int32} {l3 : Int32} {l4 : Int32} {l5 : Int32} {l6 : Int32} {l7 : Int32} {M : gM}, y_HT M → (1 ≤ l1.toInt ∧ l1.toInt ≤ 10) → (1 ≤ l2.toInt ∧ l2.toInt ≤ 60) → (0 ≤ l3.toInt ∧ l3.toInt ≤ 1) → (0 ≤ l6.toInt ∧ l6.toInt ≤ 9) → (0 ≤ l7.toInt ∧ l7.toInt ≤ 60) → (y_W M) → 10 - l6.toInt ≤ m65 → 60 - l7.toInt < m74 → Ok (k74 (some 175) l1 l2 l3 l4 l5 l6 l7 M) (y_PI 12384898975531008 M (-2147483648) (2147483647))) (H : y_HT M) (h_l1 : 1 ≤ l1.toInt ∧ l1.toInt ≤ 10) (h_l2 : 1 ≤ l2.toInt ∧ l2.toInt ≤ 60) (h_l3 : 0 ≤ l3.toInt ∧ l3.toInt ≤ 1) (h_l6 : 0 ≤ l6.toInt ∧ l6.toInt ≤ 9) (h_l7 : 0 ≤ l7.toInt ∧ l7.toInt ≤ 60) (W : y_W M) (hm65 : 10 - l6.toInt ≤ m65) (hm74 : 60 - l7.toInt ≤ m74) : Ok (F_X12_drawn_b74 k65 k74 (some 175) l1 l2 l3 l4 l5 l6 l7 M) (y_PI 12384898975531008 M (-2147483648) (2147483647)) := by
  delta F_X12_drawn_b74
  refine Ok_i (fun c_1 => ?_) (fun c_1 => ?_)
  · skip
    replace c_1 := i_le c_1
    refine y_gO H ?_
    refine Ok_b (S_X12_standing H) (fun v2 e_v2 => ?_)
    clear e_v2
    refine Ok_b (S_X12_bits H) (fun v3 e_v3 => ?_)
    replace e_v3 := q_un e_v3
    refine Ok_b (S_X12_allHolds H) (fun v4 e_v4 => ?_)
    clear e_v4
    refine Ok_b (S_X12_laysBack H) (fun M5 zM5 => ?_)
    obtain ⟨HM5, fM5⟩ := zM5
    have a_2 := i_addc (x := l6) (c := 1) L2_1 (by omega) (by omega)
    exact v_PI (S1 := 12384898975531008) (y_fl (S2 := 12384898975531008) (by decide) fM5) (hk65 HM5 h_l1 h_l2 h_l3 (by omega) (y_Wf (y_fl (S2 := 12384898975531008) (by decide) fM5) (by decide) W) (by omega)) (by decide) (by decide) (by decide)
  · skip
    replace c_1 := i_nle c_1
    refine y_gO H ?_
    refine Ok_b (S_X12_drinks H) (fun M7 zM7 => ?_)
    obtain ⟨HM7, fM7⟩ := zM7
    refine y_gC HM7 ?_
    refine Ok_b (S_X12_passes HM7 (y_Wf (y_fl (S2 := 12384898975531008) (by decide) fM7) (by decide) W)) (fun yM10 zM10 => ?_)
    obtain ⟨v9, M10⟩ := yM10
    obtain ⟨e_v9, HM10, fM10⟩ := zM10
    try dsimp only at e_v9 HM10 fM10
    have g_3 := y_tr (y_fl (S2 := 12384898975531008) (by decide) fM7) (y_fl (S2 := 12384898975531008) (by decide) fM10)
    have a_4 := i_addc (x := l7) (c := 1) L2_1 (by omega) (by omega)
    exact v_PI (S1 := 12384898975531008) g_3 (hk74 HM10 h_l1 h_l2 h_l3 h_l6 (by omega) (y_Wf g_3 (by decide) W) (by omega) (by omega)) (by decide) (by decide) (by decide)
theorem S_X12_drawn_L74 {k65 : Option Nat → Int32 → Int32 → Int32 → Int32 → Int32 → Int32 → gM → Option (Int32 × gM)} {m65 : Int} (hk65 : ∀ {l1 : Int32} {l2 : Int32} {l3 : Int32} {l4 : Int32} {l5 : Int32} {l6 : Int32} {M : gM}, y_HT M → (1 ≤ l1.toInt ∧ l1.toInt ≤ 10) → (1 ≤ l2.toInt ∧ l2.toInt ≤ 60) → (0 ≤ l3.toInt ∧ l3.toInt ≤ 1) → (0 ≤ l6.toInt ∧ l6.toInt ≤ 10) → (y_W M) → 10 - l6.toInt < m65 → Ok (k65 (some 175) l1 l2 l3 l4 l5 l6 M) (y_PI 12384898975531008 M (-2147483648) (2147483647))) : ∀ (n : Nat) {l1 : Int32} {l2 : Int32} {l3 : Int32} {l4 : Int32} {l5 : Int32} {l6 : Int32} {l7 : Int32} {M : gM}, y_HT M → (1 ≤ l1.toInt ∧ l1.toInt ≤ 10) → (1 ≤ l2.toInt ∧ l2.toInt ≤ 60) → (0 ≤ l3.toInt ∧ l3.toInt ≤ 1) → (0 ≤ l6.toInt ∧ l6.toInt ≤ 9) → (0 ≤ l7.toInt ∧ l7.toInt ≤ 60) → (y_W M) → 10 - l6.toInt ≤ m65 → 60 - l7.toInt < (n : Int) → Ok (F_X12_drawn_L74 k65 n (some 175) l1 l2 l3 l4 l5 l6 l7 M) (y_PI 12384898975531008 M (-2147483648) (2147483647)) := by
  intro n
  induction n with
  | zero =>
    intro l1 l2 l3 l4 l5 l6 l7 M H h_l1 h_l2 h_l3 h_l6 h_l7 W hm65 hm
    exfalso
    omega
  | succ n ih =>
    intro l1 l2 l3 l4 l5 l6 l7 M H h_l1 h_l2 h_l3 h_l6 h_l7 W hm65 hm
    exact S_X12_drawn_b74 (m74 := 60 - l7.toInt) hk65 (fun H h_l1 h_l2 h_l3 h_l6 h_l7 W hm65 hmz => ih H h_l1 h_l2 h_l3 h_l6 h_l7 W hm65 (by omega)) H h_l1 h_l2 h_l3 h_l6 h_l7 W hm65 (Int.le_refl _)
theorem S_X12_drawn_b65 {k65 : Option Nat → Int32 → Int32 → Int32 → Int32 → Int32 → Int32 → gM → Option (Int32 × gM)} {m65 : Int} {l1 : Int32} {l2 : Int32} {l3 : Int32} {l4 : Int32} {l5 : Int32} {l6 : Int32} {M : gM} (hk65 : ∀ {l1 : Int32} {l2 : Int32} {l3 : Int32} {l4 : Int32} {l5 : Int32} {l6 : Int32} {M : gM}, y_HT M → (1 ≤ l1.toInt ∧ l1.toInt ≤ 10) → (1 ≤ l2.toInt ∧ l2.toInt ≤ 60) → (0 ≤ l3.toInt ∧ l3.toInt ≤ 1) → (0 ≤ l6.toInt ∧ l6.toInt ≤ 10) → (y_W M) → 10 - l6.toInt < m65 → Ok (k65 (some 175) l1 l2 l3 l4 l5 l6 M) (y_PI 12384898975531008 M (-2147483648) (2147483647))) (H : y_HT M) (h_l1 : 1 ≤ l1.toInt ∧ l1.toInt ≤ 10) (h_l2 : 1 ≤ l2.toInt ∧ l2.toInt ≤ 60) (h_l3 : 0 ≤ l3.toInt ∧ l3.toInt ≤ 1) (h_l6 : 0 ≤ l6.toInt ∧ l6.toInt ≤ 10) (W : y_W M) (hm65 : 10 - l6.toInt ≤ m65) : Ok (F_X12_drawn_b65 k65 (some 175) l1 l2 l3 l4 l5 l6 M) (y_PI 12384898975531008 M (-2147483648) (2147483647)) := by
  delta F_X12_drawn_b65
  refine Ok_i (fun c_1 => ?_) (fun c_1 => ?_)
  · skip
    replace c_1 := i_le c_1
    refine Ok_i (fun c_2 => ?_) (fun c_2 => ?_)
    · skip
      replace c_2 := i_eq c_2
      rw [L2_0] at c_2
      exact z_PI (i_rng _) H (y_rf0 _ _)
    · skip
      replace c_2 := i_ne c_2
      rw [L2_0] at c_2
      exact z_PI (i_rng _) H (y_rf0 _ _)
  · skip
    replace c_1 := i_nle c_1
    exact v_PI (S1 := 12384898975531008) (y_rf0 _ _) (S_X12_drawn_L74 hk65 g_fuel H h_l1 h_l2 h_l3 (by omega) (by decide) W (by omega) (q_fu (by rw [L2_0]; omega))) (by decide) (by decide) (by decide)
theorem S_X12_drawn_L65 : ∀ (n : Nat) {l1 : Int32} {l2 : Int32} {l3 : Int32} {l4 : Int32} {l5 : Int32} {l6 : Int32} {M : gM}, y_HT M → (1 ≤ l1.toInt ∧ l1.toInt ≤ 10) → (1 ≤ l2.toInt ∧ l2.toInt ≤ 60) → (0 ≤ l3.toInt ∧ l3.toInt ≤ 1) → (0 ≤ l6.toInt ∧ l6.toInt ≤ 10) → (y_W M) → 10 - l6.toInt < (n : Int) → Ok (F_X12_drawn_L65 n (some 175) l1 l2 l3 l4 l5 l6 M) (y_PI 12384898975531008 M (-2147483648) (2147483647)) := by
  intro n
  induction n with
  | zero =>
    intro l1 l2 l3 l4 l5 l6 M H h_l1 h_l2 h_l3 h_l6 W  hm
    exfalso
    omega
  | succ n ih =>
    intro l1 l2 l3 l4 l5 l6 M H h_l1 h_l2 h_l3 h_l6 W  hm
    exact S_X12_drawn_b65 (m65 := 10 - l6.toInt) (fun H h_l1 h_l2 h_l3 h_l6 W  hmz => ih H h_l1 h_l2 h_l3 h_l6 W  (by omega)) H h_l1 h_l2 h_l3 h_l6 W  (Int.le_refl _)
set_option maxHeartbeats 1000000 in
theorem S_X12_drawn_b0 {l1 : Int32} {l2 : Int32} {l3 : Int32} {M : gM} (H : y_HT M) (W : y_W M) : Ok (F_X12_drawn_b0 (some 175) l1 l2 l3 M) (y_PI 12384898975531008 M (-2147483648) (2147483647)) := by
  delta F_X12_drawn_b0
  refine y_gO H ?_
  refine Ok_b (S_X12_isHouse H) (fun v2 e_v2 => ?_)
  replace e_v2 := q_un e_v2
  refine Ok_i (fun c_1 => ?_) (fun c_1 => ?_)
  · skip
    replace c_1 := i_eq c_1
    rw [L2_0] at c_1
    exact v_PI (S1 := 12384898975531008) (y_rf0 _ _) (S_X12_drawn_b41  H W) (by decide) (by decide) (by decide)
  · skip
    replace c_1 := i_ne c_1
    rw [L2_0] at c_1
    refine Ok_b (S_X12_in (lo := 1) (hi := 10) rfl rfl) (fun v3 e_v3 => ?_)
    obtain ⟨e_v3, w_v3⟩ := e_v3
    refine Ok_i (fun c_2 => ?_) (fun c_2 => ?_)
    · skip
      replace c_2 := i_eq c_2
      rw [L2_0] at c_2
      exact v_PI (S1 := 12384898975531008) (y_rf0 _ _) (S_X12_drawn_b41  H W) (by decide) (by decide) (by decide)
    · skip
      replace c_2 := i_ne c_2
      rw [L2_0] at c_2
      have x_v3 := w_v3 (by omega)
      refine Ok_b (S_X12_in (lo := 1) (hi := 60) rfl rfl) (fun v4 e_v4 => ?_)
      obtain ⟨e_v4, w_v4⟩ := e_v4
      refine Ok_i (fun c_3 => ?_) (fun c_3 => ?_)
      · skip
        replace c_3 := i_eq c_3
        rw [L2_0] at c_3
        exact v_PI (S1 := 12384898975531008) (y_rf0 _ _) (S_X12_drawn_b41  H W) (by decide) (by decide) (by decide)
      · skip
        replace c_3 := i_ne c_3
        rw [L2_0] at c_3
        have x_v4 := w_v4 (by omega)
        refine Ok_b (S_X12_in (lo := 0) (hi := 1) rfl rfl) (fun v5 e_v5 => ?_)
        obtain ⟨e_v5, w_v5⟩ := e_v5
        refine Ok_i (fun c_4 => ?_) (fun c_4 => ?_)
        · skip
          replace c_4 := i_eq c_4
          rw [L2_0] at c_4
          exact v_PI (S1 := 12384898975531008) (y_rf0 _ _) (S_X12_drawn_b41  H W) (by decide) (by decide) (by decide)
        · skip
          replace c_4 := i_ne c_4
          rw [L2_0] at c_4
          have x_v5 := w_v5 (by omega)
          refine y_gI (lo := 0) (hi := 2147483647) H rfl (fun v6 q_v6 e_v6 => ?_)
          refine y_pL (S := 12384898975531008) H (fun _ => by rw [Int32.toInt_toInt64]; omega) (fun M7 HM7 fM7 o_M7 l_M7 => ?_)
          refine y_gC HM7 ?_
          refine Ok_b (S_X12_keeps HM7) (fun M9 zM9 => ?_)
          obtain ⟨HM9, fM9⟩ := zM9
          have g_5 := y_tr fM7 (y_fl (S2 := 12384898975531008) (by decide) fM9)
          exact v_PI (S1 := 12384898975531008) g_5 (S_X12_drawn_L65  g_fuel HM9 (by omega) (by omega) (by omega) (by decide) (y_Wf g_5 (by decide) W) (q_fu (by rw [L2_0]; omega))) (by decide) (by decide) (by decide)
theorem S_X12_drawn {l1 : Int32} {l2 : Int32} {l3 : Int32} {M : gM} (H : y_HT M) (W : y_W M) : Ok (F_X12_drawn (some 175) l1 l2 l3 M) (y_PI 12384898975531008 M (-2147483648) (2147483647)) := by
  delta F_X12_drawn
  exact v_PI (S1 := 12384898975531008) (y_rf0 _ _) (S_X12_drawn_b0  H W) (by decide) (by decide) (by decide)
theorem S_X12_count_b64 {l1 : Int32} {M : gM} (H : y_HT M) (h_l1 : 0 ≤ l1.toInt ∧ l1.toInt ≤ 2) : Ok (F_X12_count_b64 M (some 175) l1) (q_pi (-2147483648) (2147483647)) := by
  delta F_X12_count_b64
  refine y_gR (w := 185) H rfl (by decide) ?_
  have a_1 := i_addc (x := l1) (c := (1 : Int32)) L2_1 (by omega) (by omega)
  refine y_aI H (i := 185) (n := 157) rfl (by decide) (by omega) (by omega) (fun v2 q_v2 => ?_)
  exact r_pi (i_rng _)
set_option maxHeartbeats 1000000 in
theorem S_X12_count_b0 {l1 : Int32} {M : gM} (H : y_HT M) : Ok (F_X12_count_b0 M (some 175) l1) (q_pi (-2147483648) (2147483647)) := by
  delta F_X12_count_b0
  refine Ok_i (fun c_1 => ?_) (fun c_1 => ?_)
  · skip
    replace c_1 := i_eq c_1
    rw [L2_0] at c_1
    exact w_pi (S_X12_count_b64  H (by omega)) (by decide) (by decide)
  · skip
    replace c_1 := i_ne c_1
    rw [L2_0] at c_1
    refine Ok_i (fun c_2 => ?_) (fun c_2 => ?_)
    · skip
      replace c_2 := i_eq c_2
      rw [L2_1] at c_2
      exact w_pi (S_X12_count_b64  H (by omega)) (by decide) (by decide)
    · skip
      replace c_2 := i_ne c_2
      rw [L2_1] at c_2
      refine Ok_i (fun c_3 => ?_) (fun c_3 => ?_)
      · skip
        replace c_3 := i_eq c_3
        rw [L2_2] at c_3
        exact w_pi (S_X12_count_b64  H (by omega)) (by decide) (by decide)
      · skip
        replace c_3 := i_ne c_3
        rw [L2_2] at c_3
        refine Ok_i (fun c_4 => ?_) (fun c_4 => ?_)
        · skip
          replace c_4 := i_eq c_4
          rw [L2_3] at c_4
          refine y_gI (lo := 0) (hi := 6) H rfl (fun v1 q_v1 e_v1 => ?_)
          exact r_pi (i_rng _)
        · skip
          replace c_4 := i_ne c_4
          rw [L2_3] at c_4
          refine Ok_i (fun c_5 => ?_) (fun c_5 => ?_)
          · skip
            replace c_5 := i_eq c_5
            rw [L2_4] at c_5
            refine y_gI (lo := -1) (hi := 5) H rfl (fun v2 q_v2 e_v2 => ?_)
            exact r_pi (i_rng _)
          · skip
            replace c_5 := i_ne c_5
            rw [L2_4] at c_5
            refine Ok_i (fun c_6 => ?_) (fun c_6 => ?_)
            · skip
              replace c_6 := i_eq c_6
              rw [L2_5] at c_6
              refine y_gR (w := 185) H rfl (by decide) ?_
              refine y_aI H (i := 185) (n := 157) rfl (by decide) (by decide) (by decide) (fun v4 q_v4 => ?_)
              exact r_pi (i_rng _)
            · skip
              replace c_6 := i_ne c_6
              rw [L2_5] at c_6
              refine Ok_i (fun c_7 => ?_) (fun c_7 => ?_)
              · skip
                replace c_7 := i_eq c_7
                rw [L2_6] at c_7
                refine y_gR (w := 185) H rfl (by decide) ?_
                refine y_aI H (i := 185) (n := 157) rfl (by decide) (by decide) (by decide) (fun v6 q_v6 => ?_)
                exact r_pi (i_rng _)
              · skip
                replace c_7 := i_ne c_7
                rw [L2_6] at c_7
                refine Ok_i (fun c_8 => ?_) (fun c_8 => ?_)
                · skip
                  replace c_8 := i_eq c_8
                  rw [L2_7] at c_8
                  refine y_gO H ?_
                  refine Ok_b (S_X12_standing H) (fun v8 e_v8 => ?_)
                  clear e_v8
                  exact r_pi (i_rng _)
                · skip
                  replace c_8 := i_ne c_8
                  rw [L2_7] at c_8
                  refine Ok_i (fun c_9 => ?_) (fun c_9 => ?_)
                  · skip
                    replace c_9 := i_eq c_9
                    rw [L2_8] at c_9
                    refine y_gO H ?_
                    refine Ok_b (S_X12_allHolds H) (fun v10 e_v10 => ?_)
                    clear e_v10
                    exact r_pi (i_rng _)
                  · skip
                    replace c_9 := i_ne c_9
                    rw [L2_8] at c_9
                    refine Ok_i (fun c_10 => ?_) (fun c_10 => ?_)
                    · skip
                      replace c_10 := i_eq c_10
                      rw [L2_9] at c_10
                      refine y_gI (lo := 0) (hi := 20) H rfl (fun v11 q_v11 e_v11 => ?_)
                      exact r_pi (i_rng _)
                    · skip
                      replace c_10 := i_ne c_10
                      rw [L2_9] at c_10
                      refine Ok_i (fun c_11 => ?_) (fun c_11 => ?_)
                      · skip
                        replace c_11 := i_eq c_11
                        rw [L2_10] at c_11
                        refine y_gI (lo := 0) (hi := 2147483647) H rfl (fun v12 q_v12 e_v12 => ?_)
                        exact r_pi (i_rng _)
                      · skip
                        replace c_11 := i_ne c_11
                        rw [L2_10] at c_11
                        refine Ok_i (fun c_12 => ?_) (fun c_12 => ?_)
                        · skip
                          replace c_12 := i_eq c_12
                          rw [L2_11] at c_12
                          refine y_gI (lo := 0) (hi := 400) H rfl (fun v13 q_v13 e_v13 => ?_)
                          exact r_pi (i_rng _)
                        · skip
                          replace c_12 := i_ne c_12
                          rw [L2_11] at c_12
                          exact r_pi (i_rng _)
theorem S_X12_count {l1 : Int32} {M : gM} (H : y_HT M) : Ok (F_X12_count (some 175) l1 M) (q_pi (-2147483648) (2147483647)) := by
  delta F_X12_count
  exact w_pi (S_X12_count_b0  H) (by decide) (by decide)
theorem S_X12_image_L43 {l1 : Int32} (h1 : 0 ≤ l1.toInt ∧ l1.toInt ≤ 3) : ∀ (n : Nat) {l2 : Int32} {M : gM}, y_HT M → (0 ≤ l2.toInt ∧ l2.toInt ≤ 157) → 157 - l2.toInt < (n : Int) → Ok (F_X12_image_L43 n (some 175) l1 l2 M) (y_PI 288230376151711744 M (-2147483648) 2147483647) := by
  intro n
  induction n with
  | zero =>
    intro l2 M H h hm
    exfalso
    omega
  | succ n ih =>
    intro l2 M H h hm
    show Ok (F_X12_image_b43 (F_X12_image_L43 n) (some 175) l1 l2 M) _
    delta F_X12_image_b43
    refine Ok_i (fun c => ?_) (fun c => ?_)
    · refine y_gR (w := 185) H rfl (by decide) ?_
      refine y_aI H (i := 185) (n := 157) rfl (by decide) (by decide) (by decide) (fun v2 q2 => ?_)
      exact z_PI (i_rng _) H (y_rf0 _ _)
    · replace c := i_nle c
      rw [L2_157] at c
      have a := i_addc (x := l2) (c := (1 : Int32)) L2_1 (by omega) (by omega)
      have a1 := i_mulL (c := (157 : Int32)) (x := l1) (n := 157) rfl (by omega) (by omega)
      have a2 := i_add (x := (157 : Int32) * l1) (y := l2) (by omega) (by omega)
      refine y_gR (w := 193) H rfl (by decide) ?_
      refine y_gR (w := 185) H rfl (by decide) ?_
      refine y_aI H (i := 185) (n := 157) rfl (by decide) (by omega) (by omega) (fun v5 q5 => ?_)
      refine y_sI (S := 288230376151711744) H (i := 193) (n := 628) rfl (by omega) (by omega) (y_mv H (by decide) q5 (y_md (u := l1.toInt) (by omega) (by omega) (by omega))) (by decide) (fun M6 H6 f6 q6 o6 l6 => ?_)
      exact v_PI (S1 := 288230376151711744) f6 (ih H6 (by omega) (by omega)) (by decide) (by decide) (by decide)
theorem S_X12_image {l1 : Int32} {M : gM} (H : y_HT M) (W : y_W M) : Ok (F_X12_image (some 175) l1 M) (fun r => (y_HT r.2 ∧ y_Fr 4323455642275676160 M r.2) ∧ y_W r.2 ∧ (¬ (0 ≤ l1.toInt ∧ l1.toInt ≤ 3) → r.2 = M) ∧ ((0 ≤ l1.toInt ∧ l1.toInt ≤ 3) → (r.2.2.1 196 l1.toNatClampNeg = 1 ∧ r.2.2.1 195 l1.toNatClampNeg = M.2.1 175 22) ∧ ∀ a, a ≠ l1.toNatClampNeg → r.2.2.1 196 a = M.2.1 196 a ∧ r.2.2.1 195 a = M.2.1 195 a)) := by
  delta F_X12_image F_X12_image_b0
  refine Ok_b (S_X12_in' (lo := 0) (hi := 3) rfl rfl) (fun v1 e1 => ?_)
  refine Ok_i (fun c => ?_) (fun c => ?_)
  · have hn : ¬ (0 ≤ l1.toInt ∧ l1.toInt ≤ 3) := e1.2.2 (by rw [c]; rfl)
    exact Ok_s ⟨⟨H, y_rf0 _ _⟩, W, fun _ => rfl, fun h => absurd h hn⟩
  · have h := e1.2.1 (i_ne c)
    have e2 := i_clamp (x := l1) h.1
    refine y_gR (w := 196) H rfl (by decide) ?_
    refine y_sZ (S := 4323455642275676160) H (by omega) (by omega) (Or.inr rfl) (by decide) (fun M3 H3 f3 q3 o3 => ?_)
    refine y_gR (w := 194) H3 rfl (by decide) ?_
    refine y_gI (lo := -1) (hi := 5) H3 rfl (fun v5 q5 e5 => ?_)
    refine y_sI (S := 4323455642275676160) H3 (i := 194) (n := 4) rfl (by omega) (by omega) (y_in (lo := -1) (hi := 5) rfl e5) (by decide) (fun M6 H6 f6 q6 o6 l6 => ?_)
    refine y_gR (w := 195) H6 rfl (by decide) ?_
    refine y_gI (lo := 0) (hi := 2147483647) H6 rfl (fun v8 q8 e8 => ?_)
    refine y_sI (S := 4323455642275676160) H6 (i := 195) (n := 4) rfl (by omega) (by omega) (y_in (lo := 0) (hi := 2147483647) rfl e8) (by decide) (fun M9 H9 f9 q9 o9 l9 => ?_)
    have F9 := y_tr f3 (y_tr f6 f9)
    have e21 : M.2.1 175 21 = v5 := by rw [← q5, o3 _ _ (Or.inl (by decide))]
    have e22 : M.2.1 175 22 = v8 := by rw [← q8, o6 _ _ (Or.inl (by decide)), o3 _ _ (Or.inl (by decide))]
    have W9 : y_W M9 := by
      have k2 : M9.2.1 175 2 = M.2.1 175 2 := by rw [o9 _ _ (Or.inl (by decide)), o6 _ _ (Or.inl (by decide)), o3 _ _ (Or.inl (by decide))]
      have k21 : M9.2.1 175 21 = M.2.1 175 21 := by rw [o9 _ _ (Or.inl (by decide)), o6 _ _ (Or.inl (by decide)), o3 _ _ (Or.inl (by decide))]
      have a177 : ∀ j, M9.2.1 177 j = M.2.1 177 j := fun j => by rw [o9 _ _ (Or.inl (by decide)), o6 _ _ (Or.inl (by decide)), o3 _ _ (Or.inl (by decide))]
      have a179 : ∀ j, M9.2.1 179 j = M.2.1 179 j := fun j => by rw [o9 _ _ (Or.inl (by decide)), o6 _ _ (Or.inl (by decide)), o3 _ _ (Or.inl (by decide))]
      have a180 : ∀ j, M9.2.1 180 j = M.2.1 180 j := fun j => by rw [o9 _ _ (Or.inl (by decide)), o6 _ _ (Or.inl (by decide)), o3 _ _ (Or.inl (by decide))]
      have es : ∀ t, y_sn M9 t = y_sn M t := fun t => funext (fun j => a177 _)
      refine ⟨⟨by rw [k2, k21]; exact W.1.1, fun k hk hn => ?_⟩, fun t c ht hc => ?_⟩
      · rw [k2]
        by_cases e : k = l1.toNatClampNeg
        · rw [e, o9 _ _ (Or.inl (by decide)), q6, ← e21]
          exact W.1.1
        · rw [o9 _ _ (Or.inl (by decide)), o6 _ _ (Or.inl (by decide)), o3 _ _ (Or.inr e)] at hn
          rw [o9 _ _ (Or.inl (by decide)), o6 _ _ (Or.inr e), o3 _ _ (Or.inl (by decide))]
          exact W.1.2 k hk hn
      · rw [k2] at ht
        rw [a180] at hc
        have h9 := W.2 t c ht hc
        unfold y_cl at h9 ⊢
        rw [es, a179, a179, a179, a179]
        exact h9
    refine Ok_w (S_X12_image_L43 h g_fuel H9 (by decide) (by decide)) (fun r z => ?_)
    obtain ⟨_, H10, f10⟩ := z
    have b196 := y_fa (i := 196) f10 (by decide) (by decide)
    have b195 := y_fa (i := 195) f10 (by decide) (by decide)
    have b194 := y_fa (i := 194) f10 (by decide) (by decide)
    refine ⟨⟨H10, y_tr F9 (y_fl (by decide) f10)⟩, y_Wf f10 (by decide) W9, fun hn => absurd h hn, fun _ => ⟨⟨?_, ?_⟩, fun a ha => ⟨?_, ?_⟩⟩⟩
    · rw [b196, o9 _ _ (Or.inl (by decide)), o6 _ _ (Or.inl (by decide)), q3]
    · rw [b195, q9, e22]
    · rw [b196, o9 _ _ (Or.inl (by decide)), o6 _ _ (Or.inl (by decide)), o3 _ _ (Or.inr ha)]
    · rw [b195, o9 _ _ (Or.inr ha), o6 _ _ (Or.inl (by decide)), o3 _ _ (Or.inl (by decide))]
theorem S_X12_back_L50 {l1 : Int32} (h1 : 0 ≤ l1.toInt ∧ l1.toInt ≤ 3) : ∀ (n : Nat) {l2 : Int32} {M : gM}, y_HT M → (0 ≤ l2.toInt ∧ l2.toInt ≤ 157) → 157 - l2.toInt < (n : Int) → Ok (F_X12_back_L50 n (some 175) l1 l2 M) (y_PI 1125899906842624 M (-2147483648) 2147483647) := by
  intro n
  induction n with
  | zero =>
    intro l2 M H h hm
    exfalso
    omega
  | succ n ih =>
    intro l2 M H h hm
    show Ok (F_X12_back_b50 (F_X12_back_L50 n) (some 175) l1 l2 M) _
    delta F_X12_back_b50
    refine Ok_i (fun c => ?_) (fun c => ?_)
    · refine y_gR (w := 185) H rfl (by decide) ?_
      refine y_aI H (i := 185) (n := 157) rfl (by decide) (by decide) (by decide) (fun v2 q2 => ?_)
      exact z_PI (i_rng _) H (y_rf0 _ _)
    · replace c := i_nle c
      rw [L2_157] at c
      have a := i_addc (x := l2) (c := (1 : Int32)) L2_1 (by omega) (by omega)
      have a1 := i_mulL (c := (157 : Int32)) (x := l1) (n := 157) rfl (by omega) (by omega)
      have a2 := i_add (x := (157 : Int32) * l1) (y := l2) (by omega) (by omega)
      refine y_gR (w := 185) H rfl (by decide) ?_
      refine y_gR (w := 193) H rfl (by decide) ?_
      refine y_aI H (i := 193) (n := 628) rfl (by decide) (by omega) (by omega) (fun v5 q5 => ?_)
      refine y_sI (S := 1125899906842624) H (i := 185) (n := 157) rfl (by omega) (by omega) (y_mv H (by decide) q5 (y_md (u := l1.toInt) (by omega) (by omega) (by omega)).symm) (by decide) (fun M6 H6 f6 q6 o6 l6 => ?_)
      exact v_PI (S1 := 1125899906842624) f6 (ih H6 (by omega) (by omega)) (by decide) (by decide) (by decide)
theorem S_X12_back {l1 : Int32} {M : gM} (H : y_HT M) (W : y_W M) : Ok (F_X12_back (some 175) l1 M) (fun r => (y_HT r.2 ∧ y_Fr 1125899946688512 M r.2) ∧ y_W r.2 ∧ (¬ ((0 ≤ l1.toInt ∧ l1.toInt ≤ 3) ∧ M.2.1 196 l1.toNatClampNeg ≠ 0) → r.2 = M) ∧ ((0 ≤ l1.toInt ∧ l1.toInt ≤ 3) ∧ M.2.1 196 l1.toNatClampNeg ≠ 0 → r.2.2.1 175 22 = M.2.1 195 l1.toNatClampNeg)) := by
  delta F_X12_back F_X12_back_b0 F_X12_back_b21
  refine Ok_b (S_X12_in' (lo := 0) (hi := 3) rfl rfl) (fun v1 e1 => ?_)
  refine Ok_i (fun c => ?_) (fun c => ?_)
  · have hn : ¬ (0 ≤ l1.toInt ∧ l1.toInt ≤ 3) := e1.2.2 (by rw [c]; rfl)
    exact Ok_s ⟨⟨H, y_rf0 _ _⟩, W, fun _ => rfl, fun h => absurd h.1 hn⟩
  · have h := e1.2.1 (i_ne c)
    have e2 := i_clamp (x := l1) h.1
    refine y_gR (w := 196) H rfl (by decide) ?_
    refine y_aI H (i := 196) (n := 4) rfl (by decide) (by omega) (by omega) (fun v3 q3 => ?_)
    refine Ok_i (fun c3 => ?_) (fun c3 => ?_)
    · exact Ok_s ⟨⟨H, y_rf0 _ _⟩, W, fun _ => rfl, fun h => absurd (q3.trans c3) h.2⟩
    · have hm : M.2.1 196 l1.toNatClampNeg ≠ 0 := by rw [q3]; exact c3
      refine y_gR (w := 194) H rfl (by decide) ?_
      refine y_aIr (lo := -1) (hi := 5) H (i := 194) (n := 4) rfl (by decide) (by omega) (by omega) rfl (fun v5 q5 e5 => ?_)
      refine y_pI (S := 1125899946688512) (lo := -1) (hi := 5) H rfl e5 (by decide) (fun M6 H6 f6 q6 o6 l6 => ?_)
      have W6 := y_Wforce W f6 (by decide) q6 (by rw [← q5]; exact W.1.2 _ (by omega) hm)
      refine y_gR (w := 195) H6 rfl (by decide) ?_
      refine y_aIr (lo := 0) (hi := 2147483647) H6 (i := 195) (n := 4) rfl (by decide) (by omega) (by omega) rfl (fun v8 q8 e8 => ?_)
      refine y_pI (S := 1125899911036928) (lo := 0) (hi := 2147483647) H6 rfl e8 (by decide) (fun M9 H9 f9 q9 o9 l9 => ?_)
      refine y_pI (S := 1125899940397056) (lo := 0) (hi := 20) H9 rfl (by decide) (by decide) (fun M10 H10 f10 q10 o10 l10 => ?_)
      refine Ok_w (S_X12_back_L50 h g_fuel H10 (by decide) (by decide)) (fun r z => ?_)
      obtain ⟨_, H11, f11⟩ := z
      refine ⟨⟨H11, y_tr f6 (y_tr (y_fl (by decide) f9) (y_tr (y_fl (by decide) f10) (y_fl (by decide) f11)))⟩, y_Wf f11 (by decide) (y_Wf f10 (by decide) (y_Wf f9 (by decide) W6)), fun hn => absurd ⟨h, hm⟩ hn, fun _ => ?_⟩
      rw [y_fk (i := 175) (k := 22) f11 (by decide), o10 _ _ (Or.inr (by decide)), q9, ← q8, o6 _ _ (Or.inl (by decide))]
