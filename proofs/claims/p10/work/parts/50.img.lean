/-! the class's seed, image and back: what becomes of x and of the IMAGES -/
def q_Im (M : gM) : Prop := M.2.2.2 2 8 = some 121 ∧ ∀ k, k < 4 → M.2.2.2 121 k = some (151 + 6 * k)
def q_Fx (b : Nat → Bool) (a : Nat) (M M' : gM) : Prop :=
  (M.1.length ≤ M'.1.length ∧ ∀ i, i < M.1.length → g_k M' i = g_k M i) ∧ (∀ i, (¬ q_cs i ∨ i = 0) → M'.2.1 i = M.2.1 i ∧ M'.2.2.1 i = M.2.2.1 i ∧ M'.2.2.2 i = M.2.2.2 i) ∧
    (∀ i, i < M.1.length → i ≠ a → ∀ k, q_pI b (g_k M i) k = true → M'.2.1 i k = M.2.1 i k) ∧ (∀ i, i < M.1.length → i ≠ a → ∀ k, q_pR (g_k M i) k = true → M'.2.2.2 i k = M.2.2.2 i k)
theorem q_Fx_of {b : Nat → Bool} {a : Nat} {M M' : gM} (f : q_Fr b M M') : q_Fx b a M M' := ⟨f.1, f.2.1, fun i hi _ k hk => f.2.2.1 i hi k hk, fun i hi _ k hk => f.2.2.2 i hi k hk⟩
theorem q_Fx_tr {b : Nat → Bool} {a : Nat} {M M1 M2 : gM} (h1 : q_Fx b a M M1) (h2 : q_Fx b a M1 M2) : q_Fx b a M M2 := by
  refine ⟨⟨Nat.le_trans h1.1.1 h2.1.1, fun i hi => ?_⟩, fun i hi => ?_, fun i hi ha k hk => ?_, fun i hi ha k hk => ?_⟩
  · rw [h2.1.2 i (Nat.lt_of_lt_of_le hi h1.1.1), h1.1.2 i hi]
  · obtain ⟨a, b, c⟩ := h1.2.1 i hi
    obtain ⟨a1, b1, c1⟩ := h2.2.1 i hi
    exact ⟨a1.trans a, b1.trans b, c1.trans c⟩
  · rw [h2.2.2.1 i (Nat.lt_of_lt_of_le hi h1.1.1) ha k (by rw [h1.1.2 i hi]; exact hk), h1.2.2.1 i hi ha k hk]
  · rw [h2.2.2.2 i (Nat.lt_of_lt_of_le hi h1.1.1) ha k (by rw [h1.1.2 i hi]; exact hk), h1.2.2.2 i hi ha k hk]
theorem q_Fx_upd {b : Nat → Bool} {M M' : gM} {i : Nat} {q : Nat × Nat} (H : q_HT 0 M) (K : q_Kd M i q) (hq : q.1 < 30) (h1 : M'.1 = M.1) (hI : ∀ j, j ≠ i → M'.2.1 j = M.2.1 j) (hL : ∀ j, j ≠ i → M'.2.2.1 j = M.2.2.1 j) (hR : ∀ j, j ≠ i → M'.2.2.2 j = M.2.2.2 j) : q_Fx b i M M' := by
  have h0 := q_ne0 H K hq
  refine ⟨⟨by rw [h1]; exact Nat.le_refl _, fun j _ => q_k_of h1⟩, fun j hj => ?_, fun j _ hji k hk => by rw [hI j hji], fun j _ hji k hk => by rw [hR j hji]⟩
  have hne : j ≠ i := by
    rintro rfl
    rcases hj with hj | hj
    · exact hj K.1
    · exact h0 hj
  exact ⟨hI j hne, hL j hne, hR j hne⟩
theorem q_moX {b : Nat → Bool} {a : Nat} {M M' : gM} {i : Nat} {q : Nat × Nat} (K : q_Kd M i q) (hq : q.1 < 90) (f : q_Fx b a M M') : q_Kd M' i q := by
  obtain ⟨h1, h2⟩ := K
  refine ⟨h1, ?_⟩
  rw [f.1.2 i (q_kl (by rw [h2]; exact hq)), h2]
theorem c_aRe {t i n w : Nat} {j : Int32} {M : gM} {β : Type} {f : Option Nat → Option β} {Q : β → Prop} (K : q_Kd M i (t, n)) (h0 : 0 ≤ j.toInt) (h1 : j.toInt < (n : Int)) (e : M.2.2.2 i j.toNatClampNeg = some w) (h : Ok (f (some w)) Q) : Ok ((aR t M (some i) j).bind f) Q := by
  unfold aR
  rw [Option.bind_some, if_pos ⟨by rw [K.2], by rw [K.2]; exact gin_of h0 h1⟩, Option.bind_some, e]
  exact h
theorem c_gRv {c i k : Nat} {w : Option Nat} {M : gM} {β : Type} {f : Option Nat → Option β} {Q : β → Prop} (K : q_Kd M i (c, 0)) (e : M.2.2.2 i k = w) (h : Ok (f w) Q) : Ok ((gR c M (some i) k).bind f) Q := by
  unfold gR
  rw [Option.bind_some, if_pos K.2, Option.bind_some, e]
  exact h
theorem S_X11_seed {l1 : Int32} {M : gM} (K : q_Kd M 2 (11, 0)) : F_X11_seed (some 2) l1 M = some (if 0 ≤ l1 then (M.2.1 2 14, mI M 2 14 l1) else (-1, M)) := by
  delta F_X11_seed F_X11_seed_b0
  by_cases h : 0 ≤ l1
  · rw [if_pos h, if_pos h]
    unfold gI pI
    rw [Option.bind_some, if_pos K.2, Option.bind_some, Option.bind_some, if_pos K.2, Option.bind_some]
  · rw [if_neg h, if_neg h]
theorem q_seedHT {l1 : Int32} {M : gM} (H : q_HT 0 M) (K : q_Kd M 2 (11, 0)) (h : 0 ≤ l1.toInt) : q_HT 0 (mI M 2 14 l1) ∧ q_Fr q_bd M (mI M 2 14 l1) :=
  u_pI (b := q_bd) (lo := 0) (hi := 2147483647) H K (by decide) rfl ⟨h, Int32.toInt_le l1⟩ (by decide)
/-- an IMAGE is made: its place a has the estate and x, the others stand -/
theorem S_X11_image {l1 : Int32} {M : gM} (H : q_HT 0 M) (K : q_Kd M 2 (11, 0)) (I : q_Im M) : Ok (F_X11_image (some 2) l1 M) (fun r => (¬ (0 ≤ l1.toInt ∧ l1.toInt ≤ 3) → r.2 = M) ∧ ((0 ≤ l1.toInt ∧ l1.toInt ≤ 3) → q_HT 0 r.2 ∧ q_Fx q_ba (151 + 6 * l1.toNatClampNeg) M r.2 ∧ (∃ e, r.2.2.2.2 (151 + 6 * l1.toNatClampNeg) 1 = some e) ∧ (r.2.2.1 (151 + 6 * l1.toNatClampNeg) 3 = M.2.1 2 14 ∧ r.2.2.1 (151 + 6 * l1.toNatClampNeg) 2 = M.2.1 2 13))) := by
  delta F_X11_image F_X11_image_b0
  have z0 : (0 : Int32).toInt = 0 := rfl
  refine Ok_i (fun c => ?_) (fun c => ?_)
  · have h := i_lt c
    delta F_X11_image_b13
    exact Ok_s ⟨fun _ => rfl, fun h2 => by omega⟩
  replace c := i_nlt c
  refine d_gR (q := (26, 4)) H K (by decide) rfl (fun w rw_ Kw => ?_)
  have ew : w = 121 := Option.some.inj (rw_.symm.trans I.1)
  subst ew
  refine c_aN Kw (by decide) (by decide) (fun v2 e2 => ?_)
  refine Ok_i (fun c2 => ?_) (fun c2 => ?_)
  rotate_left
  · have h := i_nlt c2
    delta F_X11_image_b13
    exact Ok_s ⟨fun _ => rfl, fun h2 => by omega⟩
  replace c2 := i_lt c2
  have hc := i_clamp (x := l1) (by omega)
  have hk : l1.toNatClampNeg < 4 := by omega
  refine c_gRs K I.1 ?_
  have Ia := I.2 _ hk
  obtain ⟨a, ea⟩ : ∃ a, a = 151 + 6 * l1.toNatClampNeg := ⟨_, rfl⟩
  rw [← ea] at Ia ⊢
  have Ka : q_Kd M a (3, 0) := by
    have h9 := (H.2 121 Kw.1 (by decide) l1.toNatClampNeg).1
    rw [Kw.2, show q_tR (26, 4) l1.toNatClampNeg = (1, 3, 0) from if_pos hk, Ia] at h9
    rcases h9 with (h9 | ⟨h9, j, e, Kj⟩) | (⟨h9, h2⟩ | ⟨h9, h2⟩)
    · exact absurd h9 (by simp)
    · cases e
      exact Kj
    · exact absurd h9 (by simp)
    · exact absurd h9 (by simp)
  have ha2 : a ≠ 2 := q_dn Ka K (Or.inl (by decide))
  refine c_aRe Kw (by omega) (by omega) Ia ?_
  refine d_gR (q := (1, 0)) H K (by decide) rfl (fun e re Ke => ?_)
  -- the estate
  unfold pR
  rw [Option.bind_some, if_pos Ka.2, Option.bind_some]
  obtain ⟨M1, hM1⟩ : ∃ M1, M1 = mR M a 1 (some e) := ⟨_, rfl⟩
  rw [← hM1]
  have H1 : q_HT 0 M1 := by
    subst hM1
    refine q_upd H Ka rfl (fun _ _ => rfl) (fun j hj => g_up_ne _ _ _ hj) (fun hx k2 => ⟨?_, (q_self H Ka hx k2).2⟩)
    show q_okR M _ (g_up M.2.2.2 a 1 (some e) a k2)
    unfold g_up
    rw [if_pos rfl]
    by_cases e1 : k2 = 1
    · subst e1
      rw [if_pos rfl]
      exact Or.inr (Or.inl ⟨rfl, Or.inr ⟨e, rfl, Ke⟩⟩)
    · rw [if_neg e1]
      exact (q_self H Ka hx k2).1
  have f1 : q_Fx q_ba a M M1 := by
    subst hM1
    exact q_Fx_upd H Ka (by decide) rfl (fun _ _ => rfl) (fun _ _ => rfl) (fun j hj => g_up_ne _ _ _ hj)
  have r1 : M1.2.2.2 a 1 = some e := by
    subst hM1
    show g_up M.2.2.2 a 1 (some e) a 1 = _
    unfold g_up
    rw [if_pos rfl, if_pos rfl]
  have K1 := q_moX K (by decide) f1
  have Ka1 := q_moX Ka (by decide) f1
  refine d_gR (q := (8, 0)) H1 Ka1 (by decide) rfl (fun s rs Ks => ?_)
  refine d_gR (q := (8, 0)) H1 K1 (by decide) rfl (fun s2 rs2 Ks2 => ?_)
  refine c_gO Ks ?_
  refine Ok_b (S_X8_copy (b := q_ba) H1 Ks Ks2) (fun M2 z2 => ?_)
  obtain ⟨H2, f2⟩ := z2
  have K2 := q_mo K1 (by decide) f2
  have Ka2 := q_mo Ka1 (by decide) f2
  have r2 : M2.2.2.2 a 1 = some e := (f2.2.2.2 a (q_kl (by rw [Ka1.2]; decide)) 1 (by rw [Ka1.2]; rfl)).trans r1
  have x2 : ∀ k, M2.2.1 2 k = M.2.1 2 k := fun k => (f2.2.2.1 2 (q_kl (by rw [K1.2]; decide)) k (by rw [K1.2]; rfl)).trans (by subst hM1; rfl)
  have setI : ∀ {M3 : gM} {k : Nat} {v : Int32}, q_HT 0 M3 → q_Kd M3 a (3, 0) → (k = 3 → 0 ≤ v.toInt) → q_HT 0 (mI M3 a k v) ∧ q_Fx q_ba a M3 (mI M3 a k v) := by
    intro M3 k v H3 Ka3 hv
    refine ⟨q_upd H3 Ka3 rfl (fun j hj => g_up_ne _ _ _ hj) (fun _ _ => rfl) (fun hx k2 => ⟨(q_self H3 Ka3 hx k2).1, ?_⟩), q_Fx_upd H3 Ka3 (by decide) rfl (fun j hj => g_up_ne _ _ _ hj) (fun _ _ => rfl) (fun _ _ => rfl)⟩
    show _ ≤ (g_up M3.2.1 a k v a k2).toInt ∧ (g_up M3.2.1 a k v a k2).toInt ≤ _
    unfold g_up
    rw [if_pos rfl]
    by_cases e1 : k2 = k
    · subst e1
      rw [if_pos rfl]
      by_cases e3 : k2 = 3
      · subst e3
        exact ⟨hv rfl, Int32.toInt_le v⟩
      · have ef : q_tI (3, 0) k2 = (-2147483648, 2147483647) := by
          unfold q_tI
          dsimp only
          split <;> first | rfl | (exfalso; simp_all; done)
        rw [ef]
        exact i_rng v
    · rw [if_neg e1]
      exact (q_self H3 Ka3 hx k2).2
  have upI : ∀ {M3 : gM} {k : Nat} {v : Int32}, (mI M3 a k v).2.1 a k = v := by
    intro M3 k v
    show g_up M3.2.1 a k v a k = _
    unfold g_up
    rw [if_pos rfl, if_pos rfl]
  have upO : ∀ {M3 : gM} {k : Nat} {v : Int32} {i j : Nat}, i ≠ a ∨ j ≠ k → (mI M3 a k v).2.1 i j = M3.2.1 i j := by
    intro M3 k v i j h
    show g_up M3.2.1 a k v i j = _
    unfold g_up
    by_cases e1 : i = a
    · subst e1
      rw [if_pos rfl, if_neg (fun z => h.elim (fun y => y rfl) (fun y => y z))]
    · rw [if_neg e1]
  refine d_gI (lo := -2147483648) (hi := 2147483647) H2 K2 (by decide) rfl (fun v11 e11 q11 => ?_)
  unfold pI
  rw [Option.bind_some, if_pos Ka2.2, Option.bind_some]
  obtain ⟨H3, f3⟩ := setI (M3 := M2) (k := 2) (v := v11) H2 Ka2 (fun h => absurd h (by decide))
  have e32 : (mI M2 a 2 v11).2.1 a 2 = v11 := upI
  have o3 : (mI M2 a 2 v11).2.1 2 14 = M2.2.1 2 14 := upO (Or.inl (fun z => ha2 z.symm))
  have r3 : (mI M2 a 2 v11).2.2.2 = M2.2.2.2 := rfl
  generalize mI M2 a 2 v11 = M3 at H3 f3 e32 o3 r3 ⊢
  have K3 := q_moX K2 (by decide) f3
  have Ka3 := q_moX Ka2 (by decide) f3
  refine d_gI (lo := 0) (hi := 2147483647) H3 K3 (by decide) rfl (fun v13 e13 q13 => ?_)
  rw [Option.bind_some, if_pos Ka3.2, Option.bind_some]
  obtain ⟨H4, f4⟩ := setI (M3 := M3) (k := 3) (v := v13) H3 Ka3 (fun _ => q13.1)
  have e43 : (mI M3 a 3 v13).2.1 a 3 = v13 := upI
  have e42 : (mI M3 a 3 v13).2.1 a 2 = v11 := (upO (Or.inr (by decide))).trans e32
  have r4 : (mI M3 a 3 v13).2.2.2 = M3.2.2.2 := rfl
  generalize mI M3 a 3 v13 = M4 at H4 f4 e43 e42 r4 ⊢
  have K4 := q_moX K3 (by decide) f4
  refine d_gR (q := (8, 0)) H4 K4 (by decide) rfl (fun s3 rs3 Ks3 => ?_)
  refine d_gI (lo := -2147483648) (hi := 2147483647) H4 Ks3 (by decide) rfl (fun v16 _ _ => ?_)
  refine Ok_s ⟨fun h => absurd (by omega) h, fun _ => ⟨H4, q_Fx_tr f1 (q_Fx_tr (q_Fx_of f2) (q_Fx_tr f3 f4)), ⟨e, ?_⟩, ?_, ?_⟩⟩
  · show M4.2.2.2 a 1 = some e
    rw [r4, r3]
    exact r2
  · show M4.2.1 a 3 = M.2.1 2 14
    rw [e43, ← e13, o3]
    exact x2 14
  · show M4.2.1 a 2 = M.2.1 2 13
    rw [e42, ← e11]
    exact x2 13
/-- back to an IMAGE: x is the image's -/
theorem S_X11_back {l1 : Int32} {M : gM} (H : q_HT 0 M) (K : q_Kd M 2 (11, 0)) (I : q_Im M) : Ok (F_X11_back (some 2) l1 M) (fun r => (¬ ((0 ≤ l1.toInt ∧ l1.toInt ≤ 3) ∧ M.2.2.2 (151 + 6 * l1.toNatClampNeg) 1 ≠ none) → r.2 = M) ∧ ((0 ≤ l1.toInt ∧ l1.toInt ≤ 3) ∧ M.2.2.2 (151 + 6 * l1.toNatClampNeg) 1 ≠ none → q_HT 0 r.2 ∧ q_Fr q_bk M r.2 ∧ (r.2.2.1 2 14 = M.2.1 (151 + 6 * l1.toNatClampNeg) 3 ∧ r.2.2.1 2 13 = M.2.1 (151 + 6 * l1.toNatClampNeg) 2))) := by
  delta F_X11_back F_X11_back_b0
  have z0 : (0 : Int32).toInt = 0 := rfl
  refine Ok_i (fun c => ?_) (fun c => ?_)
  · have h := i_lt c
    delta F_X11_back_b13
    exact Ok_s ⟨fun _ => rfl, fun h2 => by omega⟩
  replace c := i_nlt c
  refine d_gR (q := (26, 4)) H K (by decide) rfl (fun w rw_ Kw => ?_)
  have ew : w = 121 := Option.some.inj (rw_.symm.trans I.1)
  subst ew
  refine c_aN Kw (by decide) (by decide) (fun v2 e2 => ?_)
  refine Ok_i (fun c2 => ?_) (fun c2 => ?_)
  rotate_left
  · have h := i_nlt c2
    delta F_X11_back_b13
    exact Ok_s ⟨fun _ => rfl, fun h2 => by omega⟩
  replace c2 := i_lt c2
  have hc := i_clamp (x := l1) (by omega)
  have hk : l1.toNatClampNeg < 4 := by omega
  refine c_gRs K I.1 ?_
  have Ia := I.2 _ hk
  obtain ⟨a, ea⟩ : ∃ a, a = 151 + 6 * l1.toNatClampNeg := ⟨_, rfl⟩
  rw [← ea] at Ia ⊢
  have Ka : q_Kd M a (3, 0) := by
    have h9 := (H.2 121 Kw.1 (by decide) l1.toNatClampNeg).1
    rw [Kw.2, show q_tR (26, 4) l1.toNatClampNeg = (1, 3, 0) from if_pos hk, Ia] at h9
    rcases h9 with (h9 | ⟨h9, j, e, Kj⟩) | (⟨h9, h2⟩ | ⟨h9, h2⟩)
    · exact absurd h9 (by simp)
    · cases e
      exact Kj
    · exact absurd h9 (by simp)
    · exact absurd h9 (by simp)
  have ha2 : a ≠ 2 := q_dn Ka K (Or.inl (by decide))
  refine c_aRe Kw (by omega) (by omega) Ia ?_
  have Kr : M.2.2.2 a 1 = none ∨ ∃ e, M.2.2.2 a 1 = some e ∧ q_Kd M e (1, 0) := by
    have h9 := (H.2 a Ka.1 (q_ne0 H Ka (by decide)) 1).1
    rw [Ka.2, show q_tR (3, 0) 1 = (2, 1, 0) from rfl] at h9
    rcases h9 with (h9 | ⟨h9, j, e, Kj⟩) | (⟨h9, h2⟩ | ⟨h9, h2⟩)
    · exact absurd h9 (by simp)
    · exact absurd h9 (by simp)
    · exact h2
    · exact absurd h9 (by simp)
  rcases Kr with r5e | ⟨e, r5e, Ke⟩
  · refine c_gRv Ka r5e ?_
    rw [if_pos rfl]
    exact Ok_s ⟨fun _ => rfl, fun h2 => absurd r5e h2.2⟩
  refine c_gRs Ka r5e ?_
  rw [if_neg (by simp)]
  refine c_gRs Ka r5e ?_
  refine c_pR (b := q_bk) H K (by decide) rfl Ke (by decide) (fun M7 H7 f7 => ?_)
  have K7 := q_mo K (by decide) f7
  have Ka7 := q_mo Ka (by decide) f7
  refine d_gR (q := (8, 0)) H7 K7 (by decide) rfl (fun s rs Ks => ?_)
  refine d_gR (q := (8, 0)) H7 Ka7 (by decide) rfl (fun s2 rs2 Ks2 => ?_)
  refine c_gO Ks ?_
  refine Ok_b (S_X8_copy (b := q_bk) H7 Ks Ks2) (fun M2 z2 => ?_)
  obtain ⟨H2, f2⟩ := z2
  have K2 := q_mo K7 (by decide) f2
  have Ka2 := q_mo Ka7 (by decide) f2
  refine d_gI (lo := -2147483648) (hi := 2147483647) H2 Ka2 (by decide) rfl (fun v11 e11 q11 => ?_)
  refine c_pI (b := q_bk) (lo := -2147483648) (hi := 2147483647) H2 K2 (by decide) rfl q11 (by decide) (fun M3 H3 f3 e3 o3 r3 => ?_)
  have K3 := q_mo K2 (by decide) f3
  have Ka3 := q_mo Ka2 (by decide) f3
  have F3 := q_tr f7 (q_tr f2 f3)
  refine d_gI (lo := 0) (hi := 2147483647) H3 Ka3 (by decide) rfl (fun v13 e13 q13 => ?_)
  refine c_pI (b := q_bk) (lo := 0) (hi := 2147483647) H3 K3 (by decide) rfl q13 (by decide) (fun M4 H4 f4 e4 o4 r4 => ?_)
  have K4 := q_mo K3 (by decide) f4
  refine d_gR (q := (4, 0)) H4 K4 (by decide) rfl (fun p rp Kp => ?_)
  refine c_gO Kp ?_
  refine Ok_b (S_X4_clear (b := q_ba) H4 Kp) (fun M5 z5 => ?_)
  obtain ⟨H5, f5⟩ := z5
  have K5 := q_mo K4 (by decide) f5
  refine d_gR (q := (8, 0)) H5 K5 (by decide) rfl (fun s3 rs3 Ks3 => ?_)
  refine d_gI (lo := -2147483648) (hi := 2147483647) H5 Ks3 (by decide) rfl (fun v16 _ _ => ?_)
  have F2 := q_tr f7 f2
  refine Ok_s ⟨fun h => absurd ⟨by omega, by rw [r5e]; simp⟩ h, fun _ => ⟨H5, q_tr F3 (q_tr f4 (q_fl (fun k _ => rfl) f5)), ?_, ?_⟩⟩
  · show M5.2.1 2 14 = M.2.1 a 3
    rw [f5.2.2.1 2 (q_kl (by rw [K4.2]; decide)) 14 (by rw [K4.2]; rfl), e4, ← e13]
    exact F3.2.2.1 a (q_kl (by rw [Ka.2]; decide)) 3 (by rw [Ka.2]; rfl)
  · show M5.2.1 2 13 = M.2.1 a 2
    rw [f5.2.2.1 2 (q_kl (by rw [K4.2]; decide)) 13 (by rw [K4.2]; rfl), o4 2 13 (Or.inr (by decide)), e3, ← e11]
    exact F2.2.2.1 a (q_kl (by rw [Ka.2]; decide)) 2 (by rw [Ka.2]; rfl)
