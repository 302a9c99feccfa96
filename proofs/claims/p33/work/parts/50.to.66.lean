-- 50.img
/-! the class's seed, image and back: what becomes of x and of the IMAGES -/
def q_Im (M : gM) : Prop := M.2.2.2 2 8 = some 121 ∧ ∀ k, k < 4 → M.2.2.2 121 k = some (151 + 6 * k)
def q_Fx (b : Nat → Bool) (a : Nat) (M M' : gM) : Prop :=
  (M.1.length ≤ M'.1.length ∧ ∀ i, i < M.1.length → g_k M' i = g_k M i) ∧ (∀ i, (¬ q_cs i ∨ i = 0) → M'.2.1 i = M.2.1 i ∧ M'.2.2.1 i = M.2.2.1 i ∧ M'.2.2.2 i = M.2.2.2 i) ∧
    (∀ i, i < M.1.length → i ≠ a → ∀ k, q_pI b (g_k M i) k = true → M'.2.1 i k = M.2.1 i k) ∧ (∀ i, i < M.1.length → i ≠ a → ∀ k, q_pR (g_k M i) k = true → M'.2.2.2 i k = M.2.2.2 i k)
theorem q_Fx_of {b : Nat → Bool} {a : Nat} {M M' : gM} (f : q_Fr b M M') : q_Fx b a M M' := ⟨f.1, f.2.1, fun i hi _ k hk => f.2.2.1 i hi k hk, fun i hi _ k hk => f.2.2.2 i hi k hk⟩
theorem q_Fx_tr {b : Nat → Bool} {a : Nat} {M M1 M2 : gM} (h1 : q_Fx b a M M1) (h2 : q_Fx b a M1 M2) : q_Fx b a M M2 := by
  refine ⟨⟨Nat.le_trans h1.1.1 h2.1.1, fun i hi => ?_⟩, fun i hi => ?_, fun i hi ha k hk => ?_, fun i hi ha k hk => ?_⟩
  · rw [h2.1.2 i (Nat.lt_of_lt_of_le hi h1.1.1), h1.1.2 i hi]
  · obtain ⟨a, b, c⟩ := h1.2.1 i hi
    obtain ⟨a1, b1, c1⟩ := h2.2.1 i hi
    exact ⟨a1.trans a, b1.trans b, c1.trans c⟩
  · rw [h2.2.2.1 i (Nat.lt_of_lt_of_le hi h1.1.1) ha k (by rw [h1.1.2 i hi]; exact hk), h1.2.2.1 i hi ha k hk]
  · rw [h2.2.2.2 i (Nat.lt_of_lt_of_le hi h1.1.1) ha k (by rw [h1.1.2 i hi]; exact hk), h1.2.2.2 i hi ha k hk]
theorem q_Fx_upd {b : Nat → Bool} {M M' : gM} {i : Nat} {q : Nat × Nat} (H : q_HT 0 M) (K : q_Kd M i q) (hq : q.1 < 30) (h1 : M'.1 = M.1) (hI : ∀ j, j ≠ i → M'.2.1 j = M.2.1 j) (hL : ∀ j, j ≠ i → M'.2.2.1 j = M.2.2.1 j) (hR : ∀ j, j ≠ i → M'.2.2.2 j = M.2.2.2 j) : q_Fx b i M M' := by
  have h0 := q_ne0 H K hq
  refine ⟨⟨by rw [h1]; exact Nat.le_refl _, fun j _ => q_k_of h1⟩, fun j hj => ?_, fun j _ hji k hk => by rw [hI j hji], fun j _ hji k hk => by rw [hR j hji]⟩
  have hne : j ≠ i := by
    rintro rfl
    rcases hj with hj | hj
    · exact hj K.1
    · exact h0 hj
  exact ⟨hI j hne, hL j hne, hR j hne⟩
theorem q_moX {b : Nat → Bool} {a : Nat} {M M' : gM} {i : Nat} {q : Nat × Nat} (K : q_Kd M i q) (hq : q.1 < 90) (f : q_Fx b a M M') : q_Kd M' i q := by
  obtain ⟨h1, h2⟩ := K
  refine ⟨h1, ?_⟩
  rw [f.1.2 i (q_kl (by rw [h2]; exact hq)), h2]
theorem c_aRe {t i n w : Nat} {j : Int32} {M : gM} {β : Type} {f : Option Nat → Option β} {Q : β → Prop} (K : q_Kd M i (t, n)) (h0 : 0 ≤ j.toInt) (h1 : j.toInt < (n : Int)) (e : M.2.2.2 i j.toNatClampNeg = some w) (h : Ok (f (some w)) Q) : Ok ((aR t M (some i) j).bind f) Q := by
  unfold aR
  rw [Option.bind_some, if_pos ⟨by rw [K.2], by rw [K.2]; exact gin_of h0 h1⟩, Option.bind_some, e]
  exact h
theorem c_gRv {c i k : Nat} {w : Option Nat} {M : gM} {β : Type} {f : Option Nat → Option β} {Q : β → Prop} (K : q_Kd M i (c, 0)) (e : M.2.2.2 i k = w) (h : Ok (f w) Q) : Ok ((gR c M (some i) k).bind f) Q := by
  unfold gR
  rw [Option.bind_some, if_pos K.2, Option.bind_some, e]
  exact h
theorem S_X11_seed {l1 : Int32} {M : gM} (K : q_Kd M 2 (11, 0)) : F_X11_seed (some 2) l1 M = some (if 0 ≤ l1 then (M.2.1 2 14, mI M 2 14 l1) else (-1, M)) := by
  delta F_X11_seed F_X11_seed_b0
  by_cases h : 0 ≤ l1
  · rw [if_pos h, if_pos h]
    unfold gI pI
    rw [Option.bind_some, if_pos K.2, Option.bind_some, Option.bind_some, if_pos K.2, Option.bind_some]
  · rw [if_neg h, if_neg h]
theorem q_seedHT {l1 : Int32} {M : gM} (H : q_HT 0 M) (K : q_Kd M 2 (11, 0)) (h : 0 ≤ l1.toInt) : q_HT 0 (mI M 2 14 l1) ∧ q_Fr q_bd M (mI M 2 14 l1) :=
  u_pI (b := q_bd) (lo := 0) (hi := 2147483647) H K (by decide) rfl ⟨h, Int32.toInt_le l1⟩ (by decide)
/-- an IMAGE is made: its place a has the estate and x, the others stand -/
theorem S_X11_image {l1 : Int32} {M : gM} (H : q_HT 0 M) (K : q_Kd M 2 (11, 0)) (I : q_Im M) : Ok (F_X11_image (some 2) l1 M) (fun r => (¬ (0 ≤ l1.toInt ∧ l1.toInt ≤ 3) → r.2 = M) ∧ ((0 ≤ l1.toInt ∧ l1.toInt ≤ 3) → q_HT 0 r.2 ∧ q_Fx q_ba (151 + 6 * l1.toNatClampNeg) M r.2 ∧ (∃ e, r.2.2.2.2 (151 + 6 * l1.toNatClampNeg) 1 = some e) ∧ (r.2.2.1 (151 + 6 * l1.toNatClampNeg) 3 = M.2.1 2 14 ∧ r.2.2.1 (151 + 6 * l1.toNatClampNeg) 2 = M.2.1 2 13))) := by
  delta F_X11_image F_X11_image_b0
  have z0 : (0 : Int32).toInt = 0 := rfl
  refine Ok_i (fun c => ?_) (fun c => ?_)
  · have h := i_lt c
    delta F_X11_image_b13
    exact Ok_s ⟨fun _ => rfl, fun h2 => by omega⟩
  replace c := i_nlt c
  refine d_gR (q := (26, 4)) H K (by decide) rfl (fun w rw_ Kw => ?_)
  have ew : w = 121 := Option.some.inj (rw_.symm.trans I.1)
  subst ew
  refine c_aN Kw (by decide) (by decide) (fun v2 e2 => ?_)
  refine Ok_i (fun c2 => ?_) (fun c2 => ?_)
  rotate_left
  · have h := i_nlt c2
    delta F_X11_image_b13
    exact Ok_s ⟨fun _ => rfl, fun h2 => by omega⟩
  replace c2 := i_lt c2
  have hc := i_clamp (x := l1) (by omega)
  have hk : l1.toNatClampNeg < 4 := by omega
  refine c_gRs K I.1 ?_
  have Ia := I.2 _ hk
  obtain ⟨a, ea⟩ : ∃ a, a = 151 + 6 * l1.toNatClampNeg := ⟨_, rfl⟩
  rw [← ea] at Ia ⊢
  have Ka : q_Kd M a (3, 0) := by
    have h9 := (H.2 121 Kw.1 (by decide) l1.toNatClampNeg).1
    rw [Kw.2, show q_tR (26, 4) l1.toNatClampNeg = (1, 3, 0) from if_pos hk, Ia] at h9
    rcases h9 with (h9 | ⟨h9, j, e, Kj⟩) | (⟨h9, h2⟩ | ⟨h9, h2⟩)
    · exact absurd h9 (by simp)
    · cases e
      exact Kj
    · exact absurd h9 (by simp)
    · exact absurd h9 (by simp)
  have ha2 : a ≠ 2 := q_dn Ka K (Or.inl (by decide))
  refine c_aRe Kw (by omega) (by omega) Ia ?_
  refine d_gR (q := (1, 0)) H K (by decide) rfl (fun e re Ke => ?_)
  -- the estate
  unfold pR
  rw [Option.bind_some, if_pos Ka.2, Option.bind_some]
  obtain ⟨M1, hM1⟩ : ∃ M1, M1 = mR M a 1 (some e) := ⟨_, rfl⟩
  rw [← hM1]
  have H1 : q_HT 0 M1 := by
    subst hM1
    refine q_upd H Ka rfl (fun _ _ => rfl) (fun j hj => g_up_ne _ _ _ hj) (fun hx k2 => ⟨?_, (q_self H Ka hx k2).2⟩)
    show q_okR M _ (g_up M.2.2.2 a 1 (some e) a k2)
    unfold g_up
    rw [if_pos rfl]
    by_cases e1 : k2 = 1
    · subst e1
      rw [if_pos rfl]
      exact Or.inr (Or.inl ⟨rfl, Or.inr ⟨e, rfl, Ke⟩⟩)
    · rw [if_neg e1]
      exact (q_self H Ka hx k2).1
  have f1 : q_Fx q_ba a M M1 := by
    subst hM1
    exact q_Fx_upd H Ka (by decide) rfl (fun _ _ => rfl) (fun _ _ => rfl) (fun j hj => g_up_ne _ _ _ hj)
  have r1 : M1.2.2.2 a 1 = some e := by
    subst hM1
    show g_up M.2.2.2 a 1 (some e) a 1 = _
    unfold g_up
    rw [if_pos rfl, if_pos rfl]
  have K1 := q_moX K (by decide) f1
  have Ka1 := q_moX Ka (by decide) f1
  refine d_gR (q := (8, 0)) H1 Ka1 (by decide) rfl (fun s rs Ks => ?_)
  refine d_gR (q := (8, 0)) H1 K1 (by decide) rfl (fun s2 rs2 Ks2 => ?_)
  refine c_gO Ks ?_
  refine Ok_b (S_X8_copy (b := q_ba) H1 Ks Ks2) (fun M2 z2 => ?_)
  obtain ⟨H2, f2⟩ := z2
  have K2 := q_mo K1 (by decide) f2
  have Ka2 := q_mo Ka1 (by decide) f2
  have r2 : M2.2.2.2 a 1 = some e := (f2.2.2.2 a (q_kl (by rw [Ka1.2]; decide)) 1 (by rw [Ka1.2]; rfl)).trans r1
  have x2 : ∀ k, M2.2.1 2 k = M.2.1 2 k := fun k => (f2.2.2.1 2 (q_kl (by rw [K1.2]; decide)) k (by rw [K1.2]; rfl)).trans (by subst hM1; rfl)
  have setI : ∀ {M3 : gM} {k : Nat} {v : Int32}, q_HT 0 M3 → q_Kd M3 a (3, 0) → (k = 3 → 0 ≤ v.toInt) → q_HT 0 (mI M3 a k v) ∧ q_Fx q_ba a M3 (mI M3 a k v) := by
    intro M3 k v H3 Ka3 hv
    refine ⟨q_upd H3 Ka3 rfl (fun j hj => g_up_ne _ _ _ hj) (fun _ _ => rfl) (fun hx k2 => ⟨(q_self H3 Ka3 hx k2).1, ?_⟩), q_Fx_upd H3 Ka3 (by decide) rfl (fun j hj => g_up_ne _ _ _ hj) (fun _ _ => rfl) (fun _ _ => rfl)⟩
    show _ ≤ (g_up M3.2.1 a k v a k2).toInt ∧ (g_up M3.2.1 a k v a k2).toInt ≤ _
    unfold g_up
    rw [if_pos rfl]
    by_cases e1 : k2 = k
    · subst e1
      rw [if_pos rfl]
      by_cases e3 : k2 = 3
      · subst e3
        exact ⟨hv rfl, Int32.toInt_le v⟩
      · have ef : q_tI (3, 0) k2 = (-2147483648, 2147483647) := by
          unfold q_tI
          dsimp only
          split <;> first | rfl | (exfalso; simp_all; done)
        rw [ef]
        exact i_rng v
    · rw [if_neg e1]
      exact (q_self H3 Ka3 hx k2).2
  have upI : ∀ {M3 : gM} {k : Nat} {v : Int32}, (mI M3 a k v).2.1 a k = v := by
    intro M3 k v
    show g_up M3.2.1 a k v a k = _
    unfold g_up
    rw [if_pos rfl, if_pos rfl]
  have upO : ∀ {M3 : gM} {k : Nat} {v : Int32} {i j : Nat}, i ≠ a ∨ j ≠ k → (mI M3 a k v).2.1 i j = M3.2.1 i j := by
    intro M3 k v i j h
    show g_up M3.2.1 a k v i j = _
    unfold g_up
    by_cases e1 : i = a
    · subst e1
      rw [if_pos rfl, if_neg (fun z => h.elim (fun y => y rfl) (fun y => y z))]
    · rw [if_neg e1]
  refine d_gI (lo := -2147483648) (hi := 2147483647) H2 K2 (by decide) rfl (fun v11 e11 q11 => ?_)
  unfold pI
  rw [Option.bind_some, if_pos Ka2.2, Option.bind_some]
  obtain ⟨H3, f3⟩ := setI (M3 := M2) (k := 2) (v := v11) H2 Ka2 (fun h => absurd h (by decide))
  have e32 : (mI M2 a 2 v11).2.1 a 2 = v11 := upI
  have o3 : (mI M2 a 2 v11).2.1 2 14 = M2.2.1 2 14 := upO (Or.inl (fun z => ha2 z.symm))
  have r3 : (mI M2 a 2 v11).2.2.2 = M2.2.2.2 := rfl
  generalize mI M2 a 2 v11 = M3 at H3 f3 e32 o3 r3 ⊢
  have K3 := q_moX K2 (by decide) f3
  have Ka3 := q_moX Ka2 (by decide) f3
  refine d_gI (lo := 0) (hi := 2147483647) H3 K3 (by decide) rfl (fun v13 e13 q13 => ?_)
  rw [Option.bind_some, if_pos Ka3.2, Option.bind_some]
  obtain ⟨H4, f4⟩ := setI (M3 := M3) (k := 3) (v := v13) H3 Ka3 (fun _ => q13.1)
  have e43 : (mI M3 a 3 v13).2.1 a 3 = v13 := upI
  have e42 : (mI M3 a 3 v13).2.1 a 2 = v11 := (upO (Or.inr (by decide))).trans e32
  have r4 : (mI M3 a 3 v13).2.2.2 = M3.2.2.2 := rfl
  generalize mI M3 a 3 v13 = M4 at H4 f4 e43 e42 r4 ⊢
  have K4 := q_moX K3 (by decide) f4
  refine d_gR (q := (8, 0)) H4 K4 (by decide) rfl (fun s3 rs3 Ks3 => ?_)
  refine d_gI (lo := -2147483648) (hi := 2147483647) H4 Ks3 (by decide) rfl (fun v16 _ _ => ?_)
  refine Ok_s ⟨fun h => absurd (by omega) h, fun _ => ⟨H4, q_Fx_tr f1 (q_Fx_tr (q_Fx_of f2) (q_Fx_tr f3 f4)), ⟨e, ?_⟩, ?_, ?_⟩⟩
  · show M4.2.2.2 a 1 = some e
    rw [r4, r3]
    exact r2
  · show M4.2.1 a 3 = M.2.1 2 14
    rw [e43, ← e13, o3]
    exact x2 14
  · show M4.2.1 a 2 = M.2.1 2 13
    rw [e42, ← e11]
    exact x2 13
/-- back to an IMAGE: x is the image's -/
theorem S_X11_back {l1 : Int32} {M : gM} (H : q_HT 0 M) (K : q_Kd M 2 (11, 0)) (I : q_Im M) : Ok (F_X11_back (some 2) l1 M) (fun r => (¬ ((0 ≤ l1.toInt ∧ l1.toInt ≤ 3) ∧ M.2.2.2 (151 + 6 * l1.toNatClampNeg) 1 ≠ none) → r.2 = M) ∧ ((0 ≤ l1.toInt ∧ l1.toInt ≤ 3) ∧ M.2.2.2 (151 + 6 * l1.toNatClampNeg) 1 ≠ none → q_HT 0 r.2 ∧ q_Fr q_bk M r.2 ∧ (r.2.2.1 2 14 = M.2.1 (151 + 6 * l1.toNatClampNeg) 3 ∧ r.2.2.1 2 13 = M.2.1 (151 + 6 * l1.toNatClampNeg) 2))) := by
  delta F_X11_back F_X11_back_b0
  have z0 : (0 : Int32).toInt = 0 := rfl
  refine Ok_i (fun c => ?_) (fun c => ?_)
  · have h := i_lt c
    delta F_X11_back_b13
    exact Ok_s ⟨fun _ => rfl, fun h2 => by omega⟩
  replace c := i_nlt c
  refine d_gR (q := (26, 4)) H K (by decide) rfl (fun w rw_ Kw => ?_)
  have ew : w = 121 := Option.some.inj (rw_.symm.trans I.1)
  subst ew
  refine c_aN Kw (by decide) (by decide) (fun v2 e2 => ?_)
  refine Ok_i (fun c2 => ?_) (fun c2 => ?_)
  rotate_left
  · have h := i_nlt c2
    delta F_X11_back_b13
    exact Ok_s ⟨fun _ => rfl, fun h2 => by omega⟩
  replace c2 := i_lt c2
  have hc := i_clamp (x := l1) (by omega)
  have hk : l1.toNatClampNeg < 4 := by omega
  refine c_gRs K I.1 ?_
  have Ia := I.2 _ hk
  obtain ⟨a, ea⟩ : ∃ a, a = 151 + 6 * l1.toNatClampNeg := ⟨_, rfl⟩
  rw [← ea] at Ia ⊢
  have Ka : q_Kd M a (3, 0) := by
    have h9 := (H.2 121 Kw.1 (by decide) l1.toNatClampNeg).1
    rw [Kw.2, show q_tR (26, 4) l1.toNatClampNeg = (1, 3, 0) from if_pos hk, Ia] at h9
    rcases h9 with (h9 | ⟨h9, j, e, Kj⟩) | (⟨h9, h2⟩ | ⟨h9, h2⟩)
    · exact absurd h9 (by simp)
    · cases e
      exact Kj
    · exact absurd h9 (by simp)
    · exact absurd h9 (by simp)
  have ha2 : a ≠ 2 := q_dn Ka K (Or.inl (by decide))
  refine c_aRe Kw (by omega) (by omega) Ia ?_
  have Kr : M.2.2.2 a 1 = none ∨ ∃ e, M.2.2.2 a 1 = some e ∧ q_Kd M e (1, 0) := by
    have h9 := (H.2 a Ka.1 (q_ne0 H Ka (by decide)) 1).1
    rw [Ka.2, show q_tR (3, 0) 1 = (2, 1, 0) from rfl] at h9
    rcases h9 with (h9 | ⟨h9, j, e, Kj⟩) | (⟨h9, h2⟩ | ⟨h9, h2⟩)
    · exact absurd h9 (by simp)
    · exact absurd h9 (by simp)
    · exact h2
    · exact absurd h9 (by simp)
  rcases Kr with r5e | ⟨e, r5e, Ke⟩
  · refine c_gRv Ka r5e ?_
    rw [if_pos rfl]
    exact Ok_s ⟨fun _ => rfl, fun h2 => absurd r5e h2.2⟩
  refine c_gRs Ka r5e ?_
  rw [if_neg (by simp)]
  refine c_gRs Ka r5e ?_
  refine c_pR (b := q_bk) H K (by decide) rfl Ke (by decide) (fun M7 H7 f7 => ?_)
  have K7 := q_mo K (by decide) f7
  have Ka7 := q_mo Ka (by decide) f7
  refine d_gR (q := (8, 0)) H7 K7 (by decide) rfl (fun s rs Ks => ?_)
  refine d_gR (q := (8, 0)) H7 Ka7 (by decide) rfl (fun s2 rs2 Ks2 => ?_)
  refine c_gO Ks ?_
  refine Ok_b (S_X8_copy (b := q_bk) H7 Ks Ks2) (fun M2 z2 => ?_)
  obtain ⟨H2, f2⟩ := z2
  have K2 := q_mo K7 (by decide) f2
  have Ka2 := q_mo Ka7 (by decide) f2
  refine d_gI (lo := -2147483648) (hi := 2147483647) H2 Ka2 (by decide) rfl (fun v11 e11 q11 => ?_)
  refine c_pI (b := q_bk) (lo := -2147483648) (hi := 2147483647) H2 K2 (by decide) rfl q11 (by decide) (fun M3 H3 f3 e3 o3 r3 => ?_)
  have K3 := q_mo K2 (by decide) f3
  have Ka3 := q_mo Ka2 (by decide) f3
  have F3 := q_tr f7 (q_tr f2 f3)
  refine d_gI (lo := 0) (hi := 2147483647) H3 Ka3 (by decide) rfl (fun v13 e13 q13 => ?_)
  refine c_pI (b := q_bk) (lo := 0) (hi := 2147483647) H3 K3 (by decide) rfl q13 (by decide) (fun M4 H4 f4 e4 o4 r4 => ?_)
  have K4 := q_mo K3 (by decide) f4
  refine d_gR (q := (4, 0)) H4 K4 (by decide) rfl (fun p rp Kp => ?_)
  refine c_gO Kp ?_
  refine Ok_b (S_X4_clear (b := q_ba) H4 Kp) (fun M5 z5 => ?_)
  obtain ⟨H5, f5⟩ := z5
  have K5 := q_mo K4 (by decide) f5
  refine d_gR (q := (8, 0)) H5 K5 (by decide) rfl (fun s3 rs3 Ks3 => ?_)
  refine d_gI (lo := -2147483648) (hi := 2147483647) H5 Ks3 (by decide) rfl (fun v16 _ _ => ?_)
  have F2 := q_tr f7 f2
  refine Ok_s ⟨fun h => absurd ⟨by omega, by rw [r5e]; simp⟩ h, fun _ => ⟨H5, q_tr F3 (q_tr f4 (q_fl (fun k _ => rfl) f5)), ?_, ?_⟩⟩
  · show M5.2.1 2 14 = M.2.1 a 3
    rw [f5.2.2.1 2 (q_kl (by rw [K4.2]; decide)) 14 (by rw [K4.2]; rfl), e4, ← e13]
    exact F3.2.2.1 a (q_kl (by rw [Ka.2]; decide)) 3 (by rw [Ka.2]; rfl)
  · show M5.2.1 2 13 = M.2.1 a 2
    rw [f5.2.2.1 2 (q_kl (by rw [K4.2]; decide)) 13 (by rw [K4.2]; rfl), o4 2 13 (Or.inr (by decide)), e3, ← e11]
    exact F2.2.2.1 a (q_kl (by rw [Ka.2]; decide)) 2 (by rw [Ka.2]; rfl)
-- 51.lex
/-! the reference's reading of bytes, exactly -/
theorem e_gI {M : gM} (H : y_HT M) (k : Nat) : gI 12 M (some 175) k = some (M.2.1 175 k) := by
  unfold gI
  rw [Option.bind_some, if_pos (y_k175 H)]
theorem e_gR {M : gM} {k w : Nat} (H : y_HT M) (e : y_rf k = w) (hw : w ≠ 0) : gR 12 M (some 175) k = some (some w) := by
  unfold gR
  rw [Option.bind_some, if_pos (y_k175 H), H.1.2 k (by rw [e]; exact hw), e]
theorem e_gO {M : gM} (H : y_HT M) : gO 12 M (some 175) = some 175 := by
  unfold gO
  rw [Option.bind_some, if_pos (y_k175 H)]
theorem e_gC {M : gM} (H : y_HT M) : gC 12 M 175 = some () := by
  unfold gC
  rw [if_pos (y_k175 H)]
theorem e_aI {t i n : Nat} {j : Int32} {M : gM} (H : y_HT M) (hk : y_kd i = (t, n)) (ht : t ≤ 23) (h0 : 0 ≤ j.toInt) (h1 : j.toInt < (n : Int)) : aI t M (some i) j = some (M.2.1 i j.toNatClampNeg) := by
  have K := y_kk H (y_cs_of hk ht) hk
  unfold aI
  rw [Option.bind_some, if_pos ⟨by rw [K], by rw [K]; exact gin_of h0 h1⟩]
theorem e_pI {M : gM} (H : y_HT M) (k : Nat) (v : Int32) : pI 12 M (some 175) k v = some (mI M 175 k v) := by
  unfold pI
  rw [Option.bind_some, if_pos (y_k175 H)]
theorem e_sI {i n : Nat} {j v : Int32} {M : gM} (H : y_HT M) (hk : y_kd i = (20, n)) (h0 : 0 ≤ j.toInt) (h1 : j.toInt < (n : Int)) : sI M (some i) j v = some (mI M i j.toNatClampNeg v) := by
  have K := y_kk H (y_cs_of hk (Nat.le_of_ble_eq_true rfl)) hk
  unfold sI
  rw [Option.bind_some, if_pos ⟨by rw [K], by rw [K]; exact gin_of h0 h1⟩]
theorem n_fu {n : Nat} (h : n ≤ 400) : n < g_fuel := Nat.lt_of_le_of_lt h (by unfold g_fuel; omega)
theorem i_of {x : Int32} {n : Nat} (h : x.toInt = (n : Int)) (hn : n ≤ 2000000000) : x = Int32.ofNat n := Int32.toInt_inj.mp (h.trans (i_ofNat hn).symm)
theorem i_cl {x : Int32} {n : Nat} (h : x.toInt = (n : Int)) : x.toNatClampNeg = n := by
  show x.toInt.toNat = n
  omega
/-! the bytes, how many, the place of the reader -/
def n_b (M : gM) : Nat → Int32 := M.2.1 176
def n_s (M : gM) : Nat := (M.2.1 175 1).toInt.toNat
def n_x (M : gM) : Nat := (M.2.1 175 8).toInt.toNat
def n_at (M : gM) (p : Nat) : gM := mI M 175 8 (Int32.ofNat p)
theorem n_s1 {M : gM} (H : y_HT M) : (M.2.1 175 1).toInt = (n_s M : Int) ∧ n_s M ≤ 400 := by
  have h := H.2.1 175 (by decide) 1
  have h1 : 0 ≤ (M.2.1 175 1).toInt := h.1
  have h2 : (M.2.1 175 1).toInt ≤ 400 := h.2
  unfold n_s
  omega
theorem n_x1 {M : gM} (H : y_HT M) : (M.2.1 175 8).toInt = (n_x M : Int) ∧ n_x M ≤ 400 := by
  have h := H.2.1 175 (by decide) 8
  have h1 : 0 ≤ (M.2.1 175 8).toInt := h.1
  have h2 : (M.2.1 175 8).toInt ≤ 400 := h.2
  unfold n_x
  omega
theorem mI_ne {M : gM} {i k : Nat} {v : Int32} {j a : Nat} (h : j ≠ i ∨ a ≠ k) : (mI M i k v).2.1 j a = M.2.1 j a := y_mI2 h
theorem mI_mI {M : gM} {i k : Nat} {v w : Int32} : mI (mI M i k v) i k w = mI M i k w := by
  unfold mI
  refine congrArg (fun f => (M.1, f, M.2.2.1, M.2.2.2)) ?_
  funext a b
  unfold g_up
  by_cases h1 : a = i
  · by_cases h2 : b = k
    · simp [h1, h2]
    · simp [h1, h2]
  · simp [h1]
theorem mI_self {M : gM} {i k : Nat} {v : Int32} (h : M.2.1 i k = v) : mI M i k v = M := by
  subst h
  unfold mI
  have e : g_up M.2.1 i k (M.2.1 i k) = M.2.1 := by
    funext a b
    unfold g_up
    by_cases h1 : a = i
    · by_cases h2 : b = k
      · simp [h1, h2]
      · simp [h1, h2]
    · simp [h1]
  rw [e]
theorem n_at8 {M : gM} {p : Nat} : (n_at M p).2.1 175 8 = Int32.ofNat p := y_mI1
theorem n_atk {M : gM} {p k : Nat} (h : k ≠ 8) : (n_at M p).2.1 175 k = M.2.1 175 k := mI_ne (Or.inr h)
theorem n_ata {M : gM} {p i : Nat} (h : i ≠ 175) : (n_at M p).2.1 i = M.2.1 i := funext (fun _ => mI_ne (Or.inl h))
theorem n_at_b {M : gM} {p : Nat} : n_b (n_at M p) = n_b M := n_ata (by decide)
theorem n_at_s {M : gM} {p : Nat} : n_s (n_at M p) = n_s M := by
  unfold n_s
  rw [n_atk (by decide)]
theorem n_at_x {M : gM} {p : Nat} (h : p ≤ 400) : n_x (n_at M p) = p := by
  unfold n_x
  rw [n_at8, i_ofNat (by omega)]
  omega
theorem n_at_at {M : gM} {p q : Nat} : n_at (n_at M p) q = n_at M q := mI_mI
theorem n_at_self {M : gM} (H : y_HT M) : n_at M (n_x M) = M := mI_self (i_of (n_x1 H).1 (by have := (n_x1 H).2; omega))
theorem n_at_set {M : gM} {p : Nat} (H : y_HT M) (h : p ≤ 400) : y_HT (n_at M p) ∧ y_Fr (2 ^ 8) M (n_at M p) :=
  y_set (M' := n_at M p) (S := 2 ^ 8) H (by decide) rfl rfl y_mI1 (fun j a hj => y_mI2 hj) rfl (by
    show y_rg (0, 400) _
    unfold y_rg
    rw [i_ofNat (by omega)]
    exact ⟨by omega, by show (p : Int) ≤ 400; omega⟩) (by decide)
theorem n_atH {M : gM} {p : Nat} (H : y_HT M) (h : p ≤ 400) : y_HT (n_at M p) := (n_at_set H h).1
theorem n_inc {x : Int32} {n : Nat} (h : x.toInt = (n : Int)) (hn : n ≤ 1000) : x + (1 : Int32) = Int32.ofNat (n + 1) := by
  refine i_of ?_ (by omega)
  rw [i_addc (n := 1) rfl (by omega) (by omega), h]
  rfl
theorem n_next {M : gM} (H : y_HT M) : mI M 175 8 (M.2.1 175 8 + (1 : Int32)) = n_at M (n_x M + 1) := by
  unfold n_at
  rw [n_inc (n_x1 H).1 (by have := (n_x1 H).2; omega)]
/-- where what is true of each byte from a place on ends -/
def n_run (P : Nat → Bool) : Nat → Nat → Nat
  | 0, p => p
  | n + 1, p => if P p = true then n_run P n (p + 1) else p
theorem n_run_le {P : Nat → Bool} : ∀ (n p : Nat), p ≤ n_run P n p ∧ n_run P n p ≤ p + n := by
  intro n
  induction n with
  | zero => intro p; exact ⟨Nat.le_refl _, Nat.le_refl _⟩
  | succ n ih =>
    intro p
    unfold n_run
    by_cases h : P p = true
    · rw [if_pos h]
      have := ih (p + 1)
      omega
    · rw [if_neg h]
      omega
theorem n_run_in {P : Nat → Bool} : ∀ (n p q : Nat), p ≤ q → q < n_run P n p → P q = true := by
  intro n
  induction n with
  | zero =>
    intro p q h1 h2
    unfold n_run at h2
    omega
  | succ n ih =>
    intro p q h1 h2
    unfold n_run at h2
    by_cases h : P p = true
    · rw [if_pos h] at h2
      rcases Nat.lt_or_ge p q with e | e
      · exact ih (p + 1) q e h2
      · have : p = q := by omega
        rw [← this]
        exact h
    · rw [if_neg h] at h2
      omega
/-- with fuel enough it ends at a place where it isn't true -/
theorem n_run_end {P : Nat → Bool} {s : Nat} (hP : ∀ q, s ≤ q → P q = false) : ∀ (n p : Nat), s - p ≤ n → P (n_run P n p) = false := by
  intro n
  induction n with
  | zero =>
    intro p h
    exact hP p (by omega)
  | succ n ih =>
    intro p h
    unfold n_run
    by_cases h1 : P p = true
    · rw [if_pos h1]
      exact ih (p + 1) (by omega)
    · rw [if_neg h1]
      simpa using h1
def n_B (M : gM) (p : Nat) : Bool := decide (p < n_s M ∧ n_b M p = 32)
def n_L (M : gM) (p : Nat) : Bool := decide (p < n_s M ∧ 97 ≤ (n_b M p).toInt ∧ (n_b M p).toInt ≤ 122)
def n_D (M : gM) (p : Nat) : Bool := decide (p < n_s M ∧ 48 ≤ (n_b M p).toInt ∧ (n_b M p).toInt ≤ 57)
theorem n_at_B {M : gM} {p : Nat} : n_B (n_at M p) = n_B M := by
  unfold n_B
  rw [n_at_b, n_at_s]
theorem n_at_L {M : gM} {p : Nat} : n_L (n_at M p) = n_L M := by
  unfold n_L
  rw [n_at_b, n_at_s]
theorem n_at_D {M : gM} {p : Nat} : n_D (n_at M p) = n_D M := by
  unfold n_D
  rw [n_at_b, n_at_s]
theorem n_LD {M : gM} {p : Nat} (h : n_L M p = true) : n_D M p = false := by
  unfold n_L at h
  unfold n_D
  have h2 := of_decide_eq_true h
  exact decide_eq_false (fun z => by omega)
theorem n_BL {M : gM} {p : Nat} (h : n_L M p = true) : n_B M p = false := by
  unfold n_L at h
  unfold n_B
  have h2 := of_decide_eq_true h
  refine decide_eq_false (fun z => ?_)
  rw [z.2] at h2
  exact absurd h2.2.1 (by decide)
theorem n_BD {M : gM} {p : Nat} (h : n_D M p = true) : n_B M p = false := by
  unfold n_D at h
  unfold n_B
  have h2 := of_decide_eq_true h
  refine decide_eq_false (fun z => ?_)
  rw [z.2] at h2
  exact absurd h2.2.1 (by decide)
/-- behind the blanks from a place on -/
def n_sk (M : gM) (p : Nat) : Nat := n_run (n_B M) (n_s M - p) p
def n_le (M : gM) (p : Nat) : Nat := n_run (n_L M) (n_s M - p) p
def n_de (M : gM) (p : Nat) : Nat := n_run (n_D M) (n_s M - p) p
theorem n_sk_le {M : gM} {p : Nat} (h : p ≤ n_s M) : p ≤ n_sk M p ∧ n_sk M p ≤ n_s M := by
  have := n_run_le (P := n_B M) (n_s M - p) p
  unfold n_sk
  omega
theorem n_le_le {M : gM} {p : Nat} (h : p ≤ n_s M) : p ≤ n_le M p ∧ n_le M p ≤ n_s M := by
  have := n_run_le (P := n_L M) (n_s M - p) p
  unfold n_le
  omega
theorem n_de_le {M : gM} {p : Nat} (h : p ≤ n_s M) : p ≤ n_de M p ∧ n_de M p ≤ n_s M := by
  have := n_run_le (P := n_D M) (n_s M - p) p
  unfold n_de
  omega
theorem n_le_step {M : gM} {p : Nat} (h : n_L M p = true) : n_le M p = n_le M (p + 1) := by
  have h2 : p < n_s M := (of_decide_eq_true h).1
  unfold n_le
  rw [show n_s M - p = (n_s M - (p + 1)) + 1 by omega]
  show (if n_L M p = true then _ else _) = _
  rw [if_pos h]
theorem n_run_stop {P : Nat → Bool} {p : Nat} (h : ¬ P p = true) : ∀ n, n_run P n p = p := by
  intro n
  cases n with
  | zero => rfl
  | succ n =>
    unfold n_run
    rw [if_neg h]
theorem n_le_stop {M : gM} {p : Nat} (h : ¬ n_L M p = true) : n_le M p = p := n_run_stop h _
theorem n_de_step {M : gM} {p : Nat} (h : n_D M p = true) : n_de M p = n_de M (p + 1) := by
  have h2 : p < n_s M := (of_decide_eq_true h).1
  unfold n_de
  rw [show n_s M - p = (n_s M - (p + 1)) + 1 by omega]
  show (if n_D M p = true then _ else _) = _
  rw [if_pos h]
theorem n_de_stop {M : gM} {p : Nat} (h : ¬ n_D M p = true) : n_de M p = p := n_run_stop h _
theorem n_sk_step {M : gM} {p : Nat} (h : n_B M p = true) : n_sk M p = n_sk M (p + 1) := by
  have h2 : p < n_s M := (of_decide_eq_true h).1
  unfold n_sk
  rw [show n_s M - p = (n_s M - (p + 1)) + 1 by omega]
  show (if n_B M p = true then _ else _) = _
  rw [if_pos h]
theorem n_sk_stop {M : gM} {p : Nat} (h : ¬ n_B M p = true) : n_sk M p = p := n_run_stop h _
theorem n_sk_end {M : gM} {p : Nat} : n_B M (n_sk M p) = false := n_run_end (P := n_B M) (s := n_s M) (fun q h => decide_eq_false (fun z => by omega)) _ _ (Nat.le_refl _)
theorem n_le_end {M : gM} {p : Nat} : n_L M (n_le M p) = false := n_run_end (P := n_L M) (s := n_s M) (fun q h => decide_eq_false (fun z => by omega)) _ _ (Nat.le_refl _)
theorem n_de_end {M : gM} {p : Nat} : n_D M (n_de M p) = false := n_run_end (P := n_D M) (s := n_s M) (fun q h => decide_eq_false (fun z => by omega)) _ _ (Nat.le_refl _)
theorem n_at_sk {M : gM} {p q : Nat} : n_sk (n_at M p) q = n_sk M q := by
  unfold n_sk
  rw [n_at_B, n_at_s]
theorem n_at_le {M : gM} {p q : Nat} : n_le (n_at M p) q = n_le M q := by
  unfold n_le
  rw [n_at_L, n_at_s]
theorem n_at_de {M : gM} {p q : Nat} : n_de (n_at M p) q = n_de M q := by
  unfold n_de
  rw [n_at_D, n_at_s]
/-- the sign at a place, NONE behind the last -/
def n_c (M : gM) (p : Nat) : Int32 := if p < n_s M then n_b M p &&& 255 else -1
theorem R_see_L0 : ∀ (n : Nat) {M : gM}, y_HT M → n_x M ≤ n_s M → n_s M - n_x M < n → F_X12_see_L0 n (some 175) M = some (n_c M (n_sk M (n_x M)), n_at M (n_sk M (n_x M))) := by
  intro n
  induction n with
  | zero => intro M H h1 h2; omega
  | succ n ih =>
    intro M H h1 h2
    show F_X12_see_b0 (F_X12_see_L0 n) (some 175) M = _
    delta F_X12_see_b0
    have x1 := n_x1 H
    have s1 := n_s1 H
    have z : (32 : Int32).toInt = 32 := rfl
    have stop : ¬ n_B M (n_x M) = true → F_X12_see_b38 (some 175) M = some (n_c M (n_sk M (n_x M)), n_at M (n_sk M (n_x M))) := by
      intro h
      rw [n_sk_stop h, n_at_self H]
      delta F_X12_see_b38
      unfold n_c
      rw [e_gI H, Option.bind_some, e_gI H, Option.bind_some]
      by_cases c : M.2.1 175 1 ≤ M.2.1 175 8
      · have := i_le c
        rw [if_pos c, if_neg (by omega)]
      · have := i_nle c
        rw [if_neg c, if_pos (by omega), e_gR H (w := 176) rfl (by decide), Option.bind_some, Option.bind_some, e_aI H (t := 22) (i := 176) (n := 400) rfl (by decide) (by omega) (by omega), Option.bind_some, i_cl x1.1]
        rfl
    rw [e_gI H, Option.bind_some, e_gI H, Option.bind_some]
    by_cases c : M.2.1 175 1 ≤ M.2.1 175 8
    · have := i_le c
      rw [if_pos c]
      exact stop (fun z => by have := (of_decide_eq_true z).1; omega)
    · have hc := i_nle c
      rw [if_neg c, e_gR H (w := 176) rfl (by decide), Option.bind_some, Option.bind_some, e_aI H (t := 22) (i := 176) (n := 400) rfl (by decide) (by omega) (by omega), Option.bind_some, i_cl x1.1]
      by_cases c2 : M.2.1 176 (n_x M) = 32
      · rw [if_pos c2, Option.bind_some, e_pI H, Option.bind_some, n_next H]
        have hB : n_B M (n_x M) = true := decide_eq_true ⟨by omega, c2⟩
        rw [ih (n_atH H (by omega)) (by rw [n_at_x (by omega), n_at_s]; omega) (by rw [n_at_x (by omega), n_at_s]; omega)]
        rw [n_at_x (by omega), n_at_sk, n_at_at, ← n_sk_step hB]
        unfold n_c
        rw [n_at_s, n_at_b]
      · rw [if_neg c2]
        exact stop (fun z => c2 (of_decide_eq_true z).2)
theorem R_see {M : gM} (H : y_HT M) (h : n_x M ≤ n_s M) : F_X12_see (some 175) M = some (n_c M (n_sk M (n_x M)), n_at M (n_sk M (n_x M))) := by
  have := (n_s1 H).2
  exact R_see_L0 _ H h (n_fu (by omega))
theorem R_isLetter {M : gM} {l : Int32} {p : Nat} (H : y_HT M) (h : l.toInt = (p : Int)) : F_X12_isLetter (some 175) l M = some (if n_L M p = true then 1 else 0) := by
  delta F_X12_isLetter F_X12_isLetter_b0 F_X12_isLetter_b34
  have s1 := n_s1 H
  have z1 : (97 : Int32).toInt = 97 := rfl
  have z2 : (122 : Int32).toInt = 122 := rfl
  rw [e_gI H, Option.bind_some]
  by_cases c : M.2.1 175 1 ≤ l
  · have := i_le c
    rw [if_pos c, if_neg (fun z => by have := (of_decide_eq_true z).1; omega)]
  · have hc := i_nle c
    rw [if_neg c, e_gR H (w := 176) rfl (by decide), Option.bind_some, e_aI H (t := 22) (i := 176) (n := 400) rfl (by decide) (by omega) (by omega), Option.bind_some, i_cl h]
    by_cases c2 : M.2.1 176 p < 97
    · have := i_lt c2
      rw [if_pos c2, if_neg (fun z => by have h9 := (of_decide_eq_true z).2.1; unfold n_b at h9; omega)]
    · have hc2 := i_nlt c2
      rw [if_neg c2, Option.bind_some, e_aI H (t := 22) (i := 176) (n := 400) rfl (by decide) (by omega) (by omega), Option.bind_some, i_cl h]
      by_cases c3 : (122 : Int32) < M.2.1 176 p
      · have := i_lt c3
        rw [if_pos c3, if_neg (fun z => by have h9 := (of_decide_eq_true z).2.2; unfold n_b at h9; omega)]
      · have hc3 := i_nlt c3
        rw [if_neg c3, if_pos (show n_L M p = true from decide_eq_true ⟨by omega, by unfold n_b; omega, by unfold n_b; omega⟩)]
theorem R_isDigit {M : gM} {l : Int32} {p : Nat} (H : y_HT M) (h : l.toInt = (p : Int)) : F_X12_isDigit (some 175) l M = some (if n_D M p = true then 1 else 0) := by
  delta F_X12_isDigit F_X12_isDigit_b0 F_X12_isDigit_b34
  have s1 := n_s1 H
  have z1 : (48 : Int32).toInt = 48 := rfl
  have z2 : (57 : Int32).toInt = 57 := rfl
  rw [e_gI H, Option.bind_some]
  by_cases c : M.2.1 175 1 ≤ l
  · have := i_le c
    rw [if_pos c, if_neg (fun z => by have := (of_decide_eq_true z).1; omega)]
  · have hc := i_nle c
    rw [if_neg c, e_gR H (w := 176) rfl (by decide), Option.bind_some, e_aI H (t := 22) (i := 176) (n := 400) rfl (by decide) (by omega) (by omega), Option.bind_some, i_cl h]
    by_cases c2 : M.2.1 176 p < 48
    · have := i_lt c2
      rw [if_pos c2, if_neg (fun z => by have h9 := (of_decide_eq_true z).2.1; unfold n_b at h9; omega)]
    · have hc2 := i_nlt c2
      rw [if_neg c2, Option.bind_some, e_aI H (t := 22) (i := 176) (n := 400) rfl (by decide) (by omega) (by omega), Option.bind_some, i_cl h]
      by_cases c3 : (57 : Int32) < M.2.1 176 p
      · have := i_lt c3
        rw [if_pos c3, if_neg (fun z => by have h9 := (of_decide_eq_true z).2.2; unfold n_b at h9; omega)]
      · have hc3 := i_nlt c3
        rw [if_neg c3, if_pos (show n_D M p = true from decide_eq_true ⟨by omega, by unfold n_b; omega, by unfold n_b; omega⟩)]
theorem R_passWord_L0 : ∀ (n : Nat) {M : gM}, y_HT M → n_x M ≤ n_s M → n_s M - n_x M < n → F_X12_passWord_L0 n (some 175) M = some (n_at M (n_le M (n_x M))) := by
  intro n
  induction n with
  | zero => intro M H h1 h2; omega
  | succ n ih =>
    intro M H h1 h2
    show F_X12_passWord_b0 (F_X12_passWord_L0 n) (some 175) M = _
    delta F_X12_passWord_b0
    have x1 := n_x1 H
    have s1 := n_s1 H
    rw [e_gI H, Option.bind_some, e_gO H, Option.bind_some, R_isLetter H x1.1, Option.bind_some]
    by_cases c : n_L M (n_x M) = true
    · have hlt : n_x M < n_s M := (of_decide_eq_true c).1
      rw [if_pos c, if_neg (by decide), e_gI H, Option.bind_some, e_pI H, Option.bind_some, n_next H]
      rw [ih (n_atH H (by omega)) (by rw [n_at_x (by omega), n_at_s]; omega) (by rw [n_at_x (by omega), n_at_s]; omega)]
      rw [n_at_x (by omega), n_at_le, n_at_at, ← n_le_step c]
    · rw [if_neg c, if_pos rfl, n_le_stop c, n_at_self H]
theorem R_passWord {M : gM} (H : y_HT M) (h : n_x M ≤ n_s M) : F_X12_passWord (some 175) M = some (n_at M (n_le M (n_x M))) := by
  have := (n_s1 H).2
  exact R_passWord_L0 _ H h (n_fu (by omega))
/-- the first letters of a word, eight at most, as a number -/
def n_ac (b : Nat → Int32) (p : Nat) : Nat → Int64
  | 0 => 0
  | n + 1 => (n_ac b p n <<< ((8 : Int32).toInt64 &&& 63)) ||| (b (p + n)).toInt64
theorem n_ac_c {b c : Nat → Int32} {p : Nat} (h : ∀ q, b q = c q) : ∀ n, n_ac b p n = n_ac c p n := by
  intro n
  induction n with
  | zero => rfl
  | succ n ih =>
    unfold n_ac
    rw [ih, h]
/-- the word at a place, behind blanks, is w -/
def n_w (M : gM) (p : Nat) (w : Int64) : Bool := decide (p < n_le M p ∧ n_le M p < p + 9 ∧ n_ac (n_b M) p (n_le M p - p) = w)
theorem n_at_w {M : gM} {p q : Nat} {w : Int64} : n_w (n_at M p) q w = n_w M q w := by
  unfold n_w
  rw [n_at_le, n_at_b]
theorem n_cmp {x y : Int64} : (lg_cmp x y = 0) ↔ x = y := by
  unfold lg_cmp
  by_cases h1 : x > y
  · rw [if_pos h1]
    refine ⟨fun h => absurd h (by decide), fun h => ?_⟩
    subst h
    exact absurd h1 (by rw [gt_iff_lt, Int64.lt_iff_toInt_lt]; omega)
  · rw [if_neg h1]
    by_cases h2 : x = y
    · rw [if_pos h2]
      exact ⟨fun _ => h2, fun _ => rfl⟩
    · rw [if_neg h2]
      exact ⟨fun h => absurd h (by decide), fun h => absurd h h2⟩
theorem R_isWord_L10 {w : Int64} : ∀ (n k : Nat) {l5 : Int32} {l3 : Int64} {M : gM}, y_HT M → n_x M ≤ n_s M → l5.toInt = (k : Int) → n_x M + k ≤ n_le M (n_x M) → l3 = n_ac (n_b M) (n_x M) (min k 8) → n_s M - (n_x M + k) < n → F_X12_isWord_L10 n (some 175) w l3 l5 M = some (if n_w M (n_x M) w = true then 1 else 0, M) := by
  intro n
  induction n with
  | zero => intro k l5 l3 M H h1 h2 h3 h4 h5; omega
  | succ n ih =>
    intro k l5 l3 M H h1 h2 h3 h4 h5
    show F_X12_isWord_b10 (F_X12_isWord_L10 n) (some 175) w l3 l5 M = _
    delta F_X12_isWord_b10 F_X12_isWord_b50 F_X12_isWord_b78
    have x1 := n_x1 H
    have s1 := n_s1 H
    have z0 : (0 : Int32).toInt = 0 := rfl
    have z9 : (9 : Int32).toInt = 9 := rfl
    have z8 : (8 : Int32).toInt = 8 := rfl
    have le1 := n_le_le h1
    have a1 := i_add (x := M.2.1 175 8) (y := l5) (by omega) (by omega)
    have a2 : (M.2.1 175 8 + l5).toInt = ((n_x M + k : Nat) : Int) := by omega
    have inc := n_inc h2 (by omega)
    rw [e_gI H, Option.bind_some, e_gO H, Option.bind_some, R_isLetter H a2, Option.bind_some]
    by_cases c : n_L M (n_x M + k) = true
    · have hlt : n_x M + k < n_s M := (of_decide_eq_true c).1
      have h3' : n_x M + (k + 1) ≤ n_le M (n_x M) := by
        rcases Nat.lt_or_ge (n_x M + k) (n_le M (n_x M)) with e | e
        · omega
        · have e2 : n_x M + k = n_le M (n_x M) := by omega
          rw [e2, n_le_end] at c
          cases c
      rw [if_pos c, if_neg (by decide)]
      have go : ∀ {l : Int64}, l = n_ac (n_b M) (n_x M) (min (k + 1) 8) → F_X12_isWord_L10 n (some 175) w l (l5 + 1) M = some (if n_w M (n_x M) w = true then 1 else 0, M) := by
        intro l hl
        exact ih (k + 1) H h1 (by rw [inc, i_ofNat (by omega)]) h3' hl (by omega)
      by_cases c8 : (8 : Int32) ≤ l5
      · have := i_le c8
        rw [if_pos c8]
        exact go (by rw [h4]; congr 1; omega)
      · have h8 := i_nle c8
        rw [if_neg c8, e_gR H (w := 176) rfl (by decide), Option.bind_some, e_gI H, Option.bind_some, e_aI H (t := 22) (i := 176) (n := 400) rfl (by decide) (by omega) (by omega), Option.bind_some, i_cl a2]
        refine go ?_
        rw [h4, show min (k + 1) 8 = min k 8 + 1 by omega]
        show _ = (n_ac (n_b M) (n_x M) (min k 8) <<< ((8 : Int32).toInt64 &&& 63)) ||| (n_b M (n_x M + min k 8)).toInt64
        rw [show min k 8 = k by omega]
        rfl
    · have e2 : n_le M (n_x M) = n_x M + k := by
        rcases Nat.lt_or_ge (n_x M + k) (n_le M (n_x M)) with e | e
        · exact absurd (n_run_in _ _ (n_x M + k) (by omega) e) c
        · omega
      rw [if_neg c, if_pos rfl]
      unfold n_w
      rw [e2]
      by_cases c0 : l5 ≤ 0
      · have := i_le c0
        rw [if_pos c0, if_neg (fun z => by have := (of_decide_eq_true z).1; omega)]
      · have h0 := i_nle c0
        rw [if_neg c0]
        by_cases c9 : (9 : Int32) ≤ l5
        · have := i_le c9
          rw [if_pos c9, if_neg (fun z => by have := (of_decide_eq_true z).2.1; omega)]
        · have h9 := i_nle c9
          rw [if_neg c9, h4, show min k 8 = k by omega, show n_x M + k - n_x M = k by omega]
          by_cases ce : n_ac (n_b M) (n_x M) k = w
          · rw [if_pos (n_cmp.mpr ce), if_pos (decide_eq_true ⟨by omega, by omega, ce⟩)]
          · rw [if_neg (fun z => ce (n_cmp.mp z)), if_neg (fun z => ce (of_decide_eq_true z).2.2)]
theorem R_isWord {w : Int64} {M : gM} (H : y_HT M) (h : n_x M ≤ n_s M) : F_X12_isWord (some 175) w M = some (if n_w M (n_sk M (n_x M)) w = true then 1 else 0, n_at M (n_sk M (n_x M))) := by
  have s1 := n_s1 H
  have k1 := n_sk_le h
  have H1 : y_HT (n_at M (n_sk M (n_x M))) := n_atH H (by omega)
  delta F_X12_isWord F_X12_isWord_b0
  rw [e_gO H, Option.bind_some, R_see H h, Option.bind_some]
  show F_X12_isWord_L10 g_fuel (some 175) w 0 0 (n_at M (n_sk M (n_x M))) = _
  rw [R_isWord_L10 g_fuel 0 (l5 := 0) (l3 := 0) H1 (by rw [n_at_x (by omega), n_at_s]; omega) rfl (by rw [n_at_x (by omega), n_at_le]; exact (n_le_le (by omega)).1) rfl (by rw [n_at_x (by omega), n_at_s]; exact n_fu (by omega))]
  rw [n_at_x (by omega), n_at_w]
theorem R_takesWord {w : Int64} {M : gM} (H : y_HT M) (h : n_x M ≤ n_s M) : F_X12_takesWord (some 175) w M = some (if n_w M (n_sk M (n_x M)) w = true then (1, n_at M (n_le M (n_sk M (n_x M)))) else (0, n_at M (n_sk M (n_x M)))) := by
  have s1 := n_s1 H
  have k1 := n_sk_le h
  have H1 : y_HT (n_at M (n_sk M (n_x M))) := n_atH H (by omega)
  delta F_X12_takesWord F_X12_takesWord_b0
  rw [e_gO H, Option.bind_some, R_isWord H h, Option.bind_some]
  by_cases c : n_w M (n_sk M (n_x M)) w = true
  · rw [if_pos c, if_pos c]
    dsimp only
    rw [if_neg (by decide), e_gC H1, Option.bind_some, R_passWord H1 (by rw [n_at_x (by omega), n_at_s]; omega), Option.bind_some, n_at_x (by omega), n_at_at, n_at_le]
  · rw [if_neg c, if_neg c]
    dsimp only
    rw [if_pos rfl]
/-- the FAULT, if there was none yet -/
def n_f (M : gM) (k p : Int32) : gM := if M.2.1 175 9 = 0 then mI M 175 9 (((1 : Int32) + ((8 : Int32) * p)) + k) else M
theorem R_fails {k p : Int32} {M : gM} (H : y_HT M) : F_X12_fails (some 175) k p M = some (0, n_f M k p) := by
  delta F_X12_fails F_X12_fails_b0 F_X12_fails_b19
  unfold n_f
  rw [e_gI H, Option.bind_some]
  by_cases c : M.2.1 175 9 = 0
  · rw [if_pos c, if_pos c, e_pI H, Option.bind_some]
  · rw [if_neg c, if_neg c]
theorem n_f_set {k p : Int32} {M : gM} (H : y_HT M) : y_HT (n_f M k p) ∧ y_Fr (2 ^ 9) M (n_f M k p) := by
  unfold n_f
  by_cases c : M.2.1 175 9 = 0
  · rw [if_pos c]
    exact y_set (S := 2 ^ 9) H (by decide) rfl rfl y_mI1 (fun j a hj => y_mI2 hj) rfl (y_full rfl) (by decide)
  · rw [if_neg c]
    exact ⟨H, y_rf0 _ _⟩
/-- digits' value, five at most -/
def n_dv (b : Nat → Int32) (p : Nat) : Nat → Int32
  | 0 => 0
  | n + 1 => (((10 : Int32) * n_dv b p n) + b (p + n)) - (48 : Int32)
theorem n_dv_r {M : gM} {p : Nat} : ∀ n, (∀ q, p ≤ q → q < p + n → n_D M q = true) → n ≤ 5 → 0 ≤ (n_dv (n_b M) p n).toInt ∧ (n_dv (n_b M) p n).toInt < 10 ^ n := by
  intro n
  induction n with
  | zero => intro _ _; exact ⟨Int.le_refl 0, (by decide : (0 : Int) < 1)⟩
  | succ n ih =>
    intro h hn
    have i1 := ih (fun q h1 h2 => h q h1 (by omega)) (by omega)
    have hD := (of_decide_eq_true (h (p + n) (by omega) (by omega))).2
    have hp : (10 : Int) ^ n ≤ 10 ^ 4 := by
      rcases (by omega : n = 0 ∨ n = 1 ∨ n = 2 ∨ n = 3 ∨ n = 4) with e | e | e | e | e <;> subst e <;> decide
    have hs : (10 : Int) ^ (n + 1) = 10 * 10 ^ n := by
      rw [Int.pow_succ, Int.mul_comm]
    unfold n_dv
    have a1 := i_mulL (c := (10 : Int32)) (x := n_dv (n_b M) p n) (n := 10) rfl (by omega) (by omega)
    have a2 := i_add (x := (10 : Int32) * n_dv (n_b M) p n) (y := n_b M (p + n)) (by omega) (by omega)
    have a3 := i_subc (x := (10 : Int32) * n_dv (n_b M) p n + n_b M (p + n)) (c := (48 : Int32)) (n := 48) rfl (by omega) (by omega)
    rw [a3, a2, a1, hs]
    omega
/-- what a NUMBER here is read as -/
def n_v (M : gM) (p : Nat) : Int32 := n_dv (n_b M) p (min (n_de M p - p) 5)
theorem n_v_r {M : gM} {p : Nat} : 0 ≤ (n_v M p).toInt ∧ (n_v M p).toInt ≤ 99999 := by
  have h := n_dv_r (M := M) (p := p) (min (n_de M p - p) 5) (fun q h1 h2 => n_run_in _ _ q h1 (by show q < n_de M p; omega)) (by omega)
  have hp : (10 : Int) ^ (min (n_de M p - p) 5) ≤ 10 ^ 5 := by
    rcases (by omega : min (n_de M p - p) 5 = 0 ∨ min (n_de M p - p) 5 = 1 ∨ min (n_de M p - p) 5 = 2 ∨ min (n_de M p - p) 5 = 3 ∨ min (n_de M p - p) 5 = 4 ∨ min (n_de M p - p) 5 = 5) with e | e | e | e | e | e <;> rw [e] <;> decide
  unfold n_v
  omega
/-- whether a NUMBER of a range stands at a place -/
def n_ok (M : gM) (p : Nat) (lo hi : Int) : Bool := decide (n_de M p ≤ p + 5 ∧ lo ≤ (n_v M p).toInt ∧ (n_v M p).toInt ≤ hi)
/-- behind a NUMBER -/
def n_an (M : gM) (p : Nat) : gM := mI (n_at M (n_de M p)) 175 10 (n_v M p)
theorem n_an_set {M : gM} {p : Nat} (H : y_HT M) (h : p ≤ n_s M) : y_HT (n_an M p) ∧ y_Fr (2 ^ 8 + 2 ^ 10) M (n_an M p) := by
  have s1 := n_s1 H
  have d1 := n_de_le h
  obtain ⟨H1, f1⟩ := n_at_set (p := n_de M p) H (by omega)
  obtain ⟨H2, f2⟩ := y_set (M' := n_an M p) (S := 2 ^ 8 + 2 ^ 10) H1 (i := 175) (k := 10) (by decide) rfl rfl y_mI1 (fun j a hj => y_mI2 hj) rfl (y_full rfl) (by decide)
  exact ⟨H2, y_tr (y_fl (by decide) f1) f2⟩
theorem R_numberHere_L34 {lo hi : Int32} {p : Nat} : ∀ (n : Nat) {l3 l4 : Int32} {M : gM}, y_HT M → n_x M ≤ n_s M → l3.toInt = (p : Int) → p ≤ n_x M → n_x M ≤ n_de M p → l4 = n_dv (n_b M) p (min (n_x M - p) 5) → n_s M - n_x M < n →
    F_X12_numberHere_L34 n (some 175) lo hi l3 l4 M = some (if n_ok M p lo.toInt hi.toInt = true then (1, n_an M p) else (0, n_f (n_an M p) 1 l3)) := by
  intro n
  induction n with
  | zero => intro l3 l4 M H h1 h2 h3 h4 h5 h6; omega
  | succ n ih =>
    intro l3 l4 M H h1 h2 h3 h4 h5 h6
    show F_X12_numberHere_b34 (F_X12_numberHere_L34 n) (some 175) lo hi l3 l4 M = _
    delta F_X12_numberHere_b34 F_X12_numberHere_b75
    have x1 := n_x1 H
    have s1 := n_s1 H
    have z5 : (5 : Int32).toInt = 5 := rfl
    have d1 := n_de_le (M := M) (p := p) (by omega)
    have a1 := i_sub (x := M.2.1 175 8) (y := l3) (by omega) (by omega)
    rw [e_gI H, Option.bind_some, e_gO H, Option.bind_some, R_isDigit H x1.1, Option.bind_some]
    by_cases c : n_D M (n_x M) = true
    · have hlt : n_x M < n_s M := (of_decide_eq_true c).1
      have h4' : n_x M + 1 ≤ n_de M p := by
        rcases Nat.lt_or_ge (n_x M) (n_de M p) with e | e
        · omega
        · have e2 : n_x M = n_de M p := by omega
          rw [e2, n_de_end] at c
          cases c
      have go : ∀ {l : Int32}, l = n_dv (n_b M) p (min (n_x M + 1 - p) 5) → F_X12_numberHere_L34 n (some 175) lo hi l3 l (n_at M (n_x M + 1)) = some (if n_ok M p lo.toInt hi.toInt = true then (1, n_an M p) else (0, n_f (n_an M p) 1 l3)) := by
        intro l hl
        rw [ih (n_atH H (by omega)) (by rw [n_at_x (by omega), n_at_s]; omega) h2 (by rw [n_at_x (by omega)]; omega) (by rw [n_at_x (by omega), n_at_de]; omega) (by rw [n_at_x (by omega), n_at_b]; exact hl) (by rw [n_at_x (by omega), n_at_s]; omega)]
        unfold n_ok n_an n_v
        rw [n_at_de, n_at_b, n_at_at]
      rw [if_pos c, if_neg (by decide)]
      simp only [e_gI H, Option.bind_some]
      by_cases c5 : (5 : Int32) ≤ M.2.1 175 8 - l3
      · have := i_le c5
        rw [if_pos c5, e_pI H, Option.bind_some, n_next H]
        exact go (by rw [h5]; congr 1; omega)
      · have h5' := i_nle c5
        rw [if_neg c5, e_gR H (w := 176) rfl (by decide), Option.bind_some, e_aI H (t := 22) (i := 176) (n := 400) rfl (by decide) (by omega) (by omega), Option.bind_some, i_cl x1.1, e_pI H, Option.bind_some, n_next H]
        refine go ?_
        rw [h5, show min (n_x M + 1 - p) 5 = min (n_x M - p) 5 + 1 by omega]
        show _ = (((10 : Int32) * n_dv (n_b M) p (min (n_x M - p) 5)) + n_b M (p + min (n_x M - p) 5)) - (48 : Int32)
        rw [show p + min (n_x M - p) 5 = n_x M by omega]
        rfl
    · have e2 : n_de M p = n_x M := by
        rcases Nat.lt_or_ge (n_x M) (n_de M p) with e | e
        · exact absurd (n_run_in _ _ (n_x M) h3 e) c
        · omega
      have e4 : l4 = n_v M p := by
        rw [h5]
        unfold n_v
        rw [e2]
      have e5 : mI M 175 10 l4 = n_an M p := by
        unfold n_an
        rw [e2, n_at_self H, e4]
      have H2 : y_HT (n_an M p) := (n_an_set H (by omega)).1
      have e8 : (n_an M p).2.1 175 8 = M.2.1 175 8 := by
        rw [← e5]
        exact mI_ne (Or.inr (by decide))
      rw [if_neg c, if_pos rfl, e_pI H, Option.bind_some, e5, e_gI H2, Option.bind_some, e8]
      have bad : n_ok M p lo.toInt hi.toInt ≠ true → F_X12_numberHere_b117 (some 175) l3 (n_an M p) = some (if n_ok M p lo.toInt hi.toInt = true then (1, n_an M p) else (0, n_f (n_an M p) 1 l3)) := by
        intro h
        rw [if_neg h]
        delta F_X12_numberHere_b117
        rw [e_gO H2, Option.bind_some, R_fails H2, Option.bind_some]
        dsimp only
        rw [if_pos rfl]
      by_cases c5 : (5 : Int32) < M.2.1 175 8 - l3
      · have := i_lt c5
        rw [if_pos c5]
        exact bad (fun z => by have := (of_decide_eq_true z).1; omega)
      · have h5' := i_nlt c5
        rw [if_neg c5]
        obtain ⟨v6, ev, r1, r2, r3⟩ := S_X12_in' (v := l4) (a := lo.toInt64) (b := hi.toInt64) (lo := lo.toInt) (hi := hi.toInt) (M := n_an M p) (Int32.toInt_toInt64 _) (Int32.toInt_toInt64 _)
        rw [ev, Option.bind_some]
        rw [e4] at r2 r3
        by_cases c6 : v6 = 0
        · rw [if_pos c6]
          refine bad (fun z => r3 (by rw [c6]; rfl) (of_decide_eq_true z).2)
        · rw [if_neg c6, if_pos (show n_ok M p lo.toInt hi.toInt = true from decide_eq_true ⟨by omega, r2 (i_ne c6)⟩)]
          rfl
theorem n_f_c {M : gM} {k p q : Int32} (h : p = q) : n_f M k p = n_f M k q := by rw [h]
theorem R_numberHere {lo hi : Int32} {M : gM} {p : Nat} (H : y_HT M) (h : n_x M ≤ n_s M) (hp : p = n_sk M (n_x M)) : F_X12_numberHere (some 175) lo hi M = some (if n_D M p = true then (if n_ok M p lo.toInt hi.toInt = true then (1, n_an M p) else (0, n_f (n_an M p) 1 (Int32.ofNat p))) else (0, n_f (n_at M p) 0 (Int32.ofNat p))) := by
  subst hp
  have s1 := n_s1 H
  have k1 := n_sk_le h
  have H1 : y_HT (n_at M (n_sk M (n_x M))) := n_atH H (by omega)
  have xe : (n_at M (n_sk M (n_x M))).2.1 175 8 = Int32.ofNat (n_sk M (n_x M)) := n_at8
  have xi : (Int32.ofNat (n_sk M (n_x M))).toInt = ((n_sk M (n_x M) : Nat) : Int) := i_ofNat (by omega)
  delta F_X12_numberHere F_X12_numberHere_b0
  rw [e_gO H, Option.bind_some, R_see H h, Option.bind_some]
  dsimp only
  rw [e_gI H1, Option.bind_some, e_gC H1, Option.bind_some, xe, R_isDigit H1 xi, Option.bind_some, n_at_D]
  by_cases c : n_D M (n_sk M (n_x M)) = true
  · rw [if_pos c, if_pos c, if_neg (by decide), Option.bind_some]
    rw [R_numberHere_L34 g_fuel (p := n_sk M (n_x M)) H1 (by rw [n_at_x (by omega), n_at_s]; omega) xi (by rw [n_at_x (by omega)]; exact Nat.le_refl _) (by rw [n_at_x (by omega), n_at_de]; exact (n_de_le (by omega)).1) (by rw [n_at_x (by omega), Nat.sub_self]; rfl) (by rw [n_at_x (by omega), n_at_s]; exact n_fu (by omega))]
    have e1 : n_an (n_at M (n_sk M (n_x M))) (n_sk M (n_x M)) = n_an M (n_sk M (n_x M)) := by
      unfold n_an n_v
      rw [n_at_de, n_at_b, n_at_at]
    have e2 : n_ok (n_at M (n_sk M (n_x M))) (n_sk M (n_x M)) lo.toInt hi.toInt = n_ok M (n_sk M (n_x M)) lo.toInt hi.toInt := by
      unfold n_ok n_v
      rw [n_at_de, n_at_b]
    rw [e1, e2]
  · rw [if_neg c, if_neg c, if_pos rfl, Option.bind_some, R_fails H1, Option.bind_some]
    dsimp only
    rw [if_pos (Or.inl rfl)]
-- 52.expr
/-! the reference reads a SUM: what it puts is a list of steps that leaves one number more -/
def n_l (M : gM) (t : Nat) : Nat := (M.2.1 178 t).toInt.toNat
def n_o (M : gM) : Nat := (M.2.1 175 16).toInt.toNat
def n_m (M : gM) : Nat := (M.2.1 175 12).toInt.toNat
theorem n_l1 {M : gM} (H : y_HT M) (t : Nat) : (M.2.1 178 t).toInt = (n_l M t : Int) ∧ n_l M t ≤ 400 := by
  have h := H.2.1 178 (by decide) t
  have h1 : 0 ≤ (M.2.1 178 t).toInt := h.1
  have h2 : (M.2.1 178 t).toInt ≤ 400 := h.2
  unfold n_l
  omega
theorem n_o1 {M : gM} (H : y_HT M) : (M.2.1 175 16).toInt = (n_o M : Int) ∧ n_o M ≤ 400 := by
  have h := H.2.1 175 (by decide) 16
  have h1 : 0 ≤ (M.2.1 175 16).toInt := h.1
  have h2 : (M.2.1 175 16).toInt ≤ 400 := h.2
  unfold n_o
  omega
theorem n_m1 {M : gM} (H : y_HT M) : (M.2.1 175 12).toInt = (n_m M : Int) ∧ n_m M ≤ 60 := by
  have h := H.2.1 175 (by decide) 12
  have h1 : 0 ≤ (M.2.1 175 12).toInt := h.1
  have h2 : (M.2.1 175 12).toInt ≤ 60 := h.2
  unfold n_m
  omega
/-- while a SUM of the rule t is read: since place a the steps leave d; c more can come -/
def p_I (t a d c : Nat) (M : gM) : Prop := ((y_HT M ∧ t ≤ 5) ∧ (M.2.1 175 11).toInt = (t : Int)) ∧ (n_l M t + c ≤ n_x M ∧ n_x M ≤ n_s M) ∧ (a ≤ n_l M t ∧ y_ev (y_sn M t) a (n_l M t - a) = some d) ∧ d ≤ n_m M
/-- the steps that stand, stand; nothing but S changed -/
def p_F (S t : Nat) (M M' : gM) : Prop := y_Fr S M M' ∧ (n_l M t ≤ n_l M' t ∧ ∀ q, q < 400 * t + n_l M t → M'.2.1 177 q = M.2.1 177 q)
theorem p_F_rf {S t : Nat} {M : gM} : p_F S t M M := ⟨y_rf0 _ _, Nat.le_refl _, fun _ _ => rfl⟩
theorem p_F_tr {S t : Nat} {M M1 M2 : gM} (h1 : p_F S t M M1) (h2 : p_F S t M1 M2) : p_F S t M M2 := ⟨y_tr h1.1 h2.1, Nat.le_trans h1.2.1 h2.2.1, fun q hq => (h2.2.2 q (by have := h1.2.1; omega)).trans (h1.2.2 q hq)⟩
theorem p_F_fl {S S2 t : Nat} {M M1 : gM} (h : Nat.land S S2 = S) (h1 : p_F S t M M1) : p_F S2 t M M1 := ⟨y_fl h h1.1, h1.2⟩
/-- of a change that leaves steps and their number alone -/
theorem p_F_of {S S2 t : Nat} {M M' : gM} (f : y_Fr S M M') (h : Nat.land S S2 = S) (h2 : S.testBit 42 = false) (h3 : S.testBit 43 = false) : p_F S2 t M M' := by
  refine ⟨y_fl h f, ?_, fun q _ => y_fa (i := 177) f (by decide) h2 q⟩
  unfold n_l
  rw [y_fa (i := 178) f (by decide) h3 t]
  exact Nat.le_refl _
theorem p_I_of {S t a d c c2 : Nat} {M M' : gM} (I : p_I t a d c M) (H : y_HT M') (f : y_Fr S M M') (h1 : Nat.land S (2 ^ 1 + 2 ^ 11 + 2 ^ 42 + 2 ^ 43) = 0) (hx : n_l M t + c2 ≤ n_x M' ∧ n_x M' ≤ n_s M) (hm : n_m M ≤ n_m M') : p_I t a d c2 M' := by
  have e1 := y_fk (i := 175) (k := 1) f (y_dis h1 (by decide))
  have e11 := y_fk (i := 175) (k := 11) f (y_dis h1 (by decide))
  have a177 : ∀ q, M'.2.1 177 q = M.2.1 177 q := fun q => y_fa (i := 177) f (by decide) (y_dis h1 (by decide)) q
  have a178 : ∀ q, M'.2.1 178 q = M.2.1 178 q := fun q => y_fa (i := 178) f (by decide) (y_dis h1 (by decide)) q
  have el : n_l M' t = n_l M t := by
    unfold n_l
    rw [a178]
  have es : n_s M' = n_s M := by
    unfold n_s
    rw [e1]
  have en : y_sn M' t = y_sn M t := funext (fun j => a177 _)
  refine ⟨⟨⟨H, I.1.1.2⟩, by rw [e11]; exact I.1.2⟩, ⟨by rw [el]; exact hx.1, by rw [es]; exact hx.2⟩, ⟨by rw [el]; exact I.2.2.1.1, by rw [el, en]; exact I.2.2.1.2⟩, Nat.le_trans I.2.2.2 hm⟩
theorem n_at_m {M : gM} {p : Nat} : n_m (n_at M p) = n_m M := by
  unfold n_m
  rw [n_atk (by decide)]
theorem n_at_l {M : gM} {p t : Nat} : n_l (n_at M p) t = n_l M t := by
  unfold n_l
  rw [n_ata (by decide)]
theorem n_at_o {M : gM} {p : Nat} : n_o (n_at M p) = n_o M := by
  unfold n_o
  rw [n_atk (by decide)]
theorem p_I_at {t a d c c2 p : Nat} {M : gM} (I : p_I t a d c M) (h : n_l M t + c2 ≤ p) (hp : p ≤ n_s M) : p_I t a d c2 (n_at M p) := by
  have s1 := n_s1 I.1.1.1
  obtain ⟨H1, f1⟩ := n_at_set (p := p) I.1.1.1 (by omega)
  exact p_I_of I H1 f1 (by decide) (by rw [n_at_x (by omega)]; exact ⟨h, hp⟩) (by rw [n_at_m]; exact Nat.le_refl _)
theorem p_F_at {S t p : Nat} {M : gM} (H : y_HT M) (hp : p ≤ 400) (h : Nat.land (2 ^ 8) S = 2 ^ 8) : p_F S t M (n_at M p) := p_F_of (n_at_set H hp).2 h (by decide) (by decide)
/-- value, term, sum and compare change: 8, 9, 10, 12, sign, length -/
abbrev p_E : Nat := 2 ^ 8 + 2 ^ 9 + 2 ^ 10 + 2 ^ 12 + 2 ^ 42 + 2 ^ 43
def p_P (S t a d c : Nat) (M : gM) : Int32 × gM → Prop := fun r => (y_HT r.2 ∧ p_F S t M r.2) ∧ ((r.1 = 0 ∧ r.2.2.1 175 9 ≠ 0) ∨ (r.1 = 1 ∧ p_I t a d c r.2 ∧ n_x M ≤ n_x r.2))
theorem p_P0 {S t a d c : Nat} {M M' : gM} (H : y_HT M') (f : p_F S t M M') (h : M'.2.1 175 9 ≠ 0) : Ok (some ((0 : Int32), M')) (p_P S t a d c M) := Ok_s ⟨⟨H, f⟩, Or.inl ⟨rfl, h⟩⟩
theorem p_P1 {S t a d c : Nat} {M M' : gM} (I : p_I t a d c M') (f : p_F S t M M') (hx : n_x M ≤ n_x M') : Ok (some ((1 : Int32), M')) (p_P S t a d c M) := Ok_s ⟨⟨I.1.1.1, f⟩, Or.inr ⟨rfl, I, hx⟩⟩
theorem p_Pw {S S1 t a d c : Nat} {M M1 : gM} {o : Option (Int32 × gM)} (f : p_F S t M M1) (hx : n_x M ≤ n_x M1) (h : Ok o (p_P S1 t a d c M1)) (hS : Nat.land S1 S = S1) : Ok o (p_P S t a d c M) := Ok_w h (fun _ z => ⟨⟨z.1.1, p_F_tr f (p_F_fl hS z.1.2)⟩, z.2.imp id (fun w => ⟨w.1, w.2.1, Nat.le_trans hx w.2.2⟩)⟩)
theorem n_f9 {M : gM} {k p : Int32} {q : Nat} (hp : p.toInt = (q : Int)) (hq : q ≤ 400) (hk : 0 ≤ k.toInt ∧ k.toInt ≤ 4) : (n_f M k p).2.1 175 9 ≠ 0 := by
  unfold n_f
  by_cases c : M.2.1 175 9 = 0
  · rw [if_pos c, y_mI1]
    intro e
    have a1 := i_mulL (c := (8 : Int32)) (x := p) (n := 8) rfl (by omega) (by omega)
    have a2 := i_cadd (c := (1 : Int32)) (x := (8 : Int32) * p) (n := 1) rfl (by omega) (by omega)
    have a3 := i_add (x := (1 : Int32) + (8 : Int32) * p) (y := k) (by omega) (by omega)
    rw [e] at a3
    have z : (0 : Int32).toInt = 0 := rfl
    omega
  · rw [if_neg c]
    exact c
theorem p_F_f {S t : Nat} {M : gM} {k p : Int32} (H : y_HT M) (h : Nat.land (2 ^ 9) S = 2 ^ 9) : p_F S t M (n_f M k p) := p_F_of (n_f_set H).2 h (by decide) (by decide)
/-- the FAULT ends it -/
theorem p_Pf {S t a d c : Nat} {M M1 : gM} {k p : Int32} {q : Nat} (H : y_HT M1) (f : p_F S t M M1) (hS : Nat.land (2 ^ 9) S = 2 ^ 9) (hp : p.toInt = (q : Int)) (hq : q ≤ 400) (hk : 0 ≤ k.toInt ∧ k.toInt ≤ 4) : Ok (some ((0 : Int32), n_f M1 k p)) (p_P S t a d c M) :=
  p_P0 (n_f_set H).1 (p_F_tr f (p_F_f H hS)) (n_f9 hp hq hk)
/-! one step is put -/
def n_p (M : gM) (t : Nat) (w : Int32) : gM := mI (mI M 177 (400 * t + n_l M t) w) 178 t (Int32.ofNat (n_l M t + 1))
theorem R_puts {t : Nat} {s v : Int32} {M : gM} (H : y_HT M) (ht : t ≤ 5) (e : (M.2.1 175 11).toInt = (t : Int)) (hl : n_l M t < 400) : F_X12_puts (some 175) s v M = some (n_p M t (s + (16 : Int32) * v)) := by
  have l1 := n_l1 H t
  delta F_X12_puts F_X12_puts_b0
  have ct : (M.2.1 175 11).toNatClampNeg = t := i_cl e
  have a1 := i_mulL (c := (400 : Int32)) (x := M.2.1 175 11) (n := 400) rfl (by omega) (by omega)
  have a2 := i_add (x := (400 : Int32) * M.2.1 175 11) (y := M.2.1 178 t) (by omega) (by omega)
  have a3 : ((400 : Int32) * M.2.1 175 11 + M.2.1 178 t).toInt = ((400 * t + n_l M t : Nat) : Int) := by omega
  rw [e_gR H (w := 177) rfl (by decide), Option.bind_some, e_gI H, Option.bind_some, e_gR H (w := 178) rfl (by decide), Option.bind_some, Option.bind_some, e_aI H (t := 20) (i := 178) (n := 7) rfl (by decide) (by omega) (by omega), Option.bind_some, ct, e_sI H (i := 177) (n := 2400) rfl (by omega) (by omega), Option.bind_some, i_cl a3]
  obtain ⟨H1, f1⟩ := y_set (M' := mI M 177 (400 * t + n_l M t) (s + (16 : Int32) * v)) (S := 2 ^ 42) H (i := 177) (k := 400 * t + n_l M t) (by decide) rfl rfl y_mI1 (fun j a hj => y_mI2 hj) rfl (y_full rfl) (show Nat.testBit (2 ^ 42) 42 = true by decide)
  have e11 : (mI M 177 (400 * t + n_l M t) (s + (16 : Int32) * v)).2.1 175 11 = M.2.1 175 11 := mI_ne (Or.inl (by decide))
  have e78 : (mI M 177 (400 * t + n_l M t) (s + (16 : Int32) * v)).2.1 178 t = M.2.1 178 t := mI_ne (Or.inl (by decide))
  rw [e_gR H1 (w := 178) rfl (by decide), Option.bind_some, e_gI H1, Option.bind_some, e11, e_aI H1 (t := 20) (i := 178) (n := 7) rfl (by decide) (by omega) (by omega), Option.bind_some, ct, e78, e_sI H1 (i := 178) (n := 7) rfl (by omega) (by omega), Option.bind_some, ct, n_inc l1.1 (by omega)]
  rfl
theorem n_p_l {M : gM} {t : Nat} {w : Int32} (h : n_l M t < 400) : n_l (n_p M t w) t = n_l M t + 1 := by
  show ((n_p M t w).2.1 178 t).toInt.toNat = _
  unfold n_p
  rw [y_mI1, i_ofNat (by omega)]
  omega
theorem p_puts {S t a d d2 c : Nat} {M : gM} {w : Int32} (I : p_I t a d (c + 1) M) (hw : y_st w d = some d2) (hd : d2 ≤ n_m M) (hS : Nat.land (2 ^ 42 + 2 ^ 43) S = 2 ^ 42 + 2 ^ 43) : p_I t a d2 c (n_p M t w) ∧ p_F S t M (n_p M t w) ∧ n_x (n_p M t w) = n_x M := by
  obtain ⟨⟨⟨H, ht⟩, e11⟩, ⟨hx, hs⟩, ⟨ha, hev⟩, hm⟩ := I
  have s1 := n_s1 H
  have l1 := n_l1 H t
  have hl : n_l M t < 400 := by omega
  obtain ⟨H1, f1⟩ := y_set (M' := mI M 177 (400 * t + n_l M t) w) (S := 2 ^ 42 + 2 ^ 43) H (i := 177) (k := 400 * t + n_l M t) (by decide) rfl rfl y_mI1 (fun j a hj => y_mI2 hj) rfl (y_full rfl) (show Nat.testBit (2 ^ 42 + 2 ^ 43) 42 = true by decide)
  obtain ⟨H2, f2⟩ := y_set (M' := n_p M t w) (S := 2 ^ 42 + 2 ^ 43) H1 (i := 178) (k := t) (by decide) rfl rfl y_mI1 (fun j a hj => y_mI2 hj) rfl (by
    show y_rg (0, 400) _
    unfold y_rg
    rw [i_ofNat (by omega)]
    exact ⟨by omega, by show ((n_l M t + 1 : Nat) : Int) ≤ 400; omega⟩) (show Nat.testBit (2 ^ 42 + 2 ^ 43) 43 = true by decide)
  have f := y_tr f1 f2
  have el := n_p_l (w := w) hl
  have eq : ∀ q, q ≠ 400 * t + n_l M t → (n_p M t w).2.1 177 q = M.2.1 177 q := fun q hq => (mI_ne (Or.inl (by decide))).trans (mI_ne (Or.inr hq))
  have ew : (n_p M t w).2.1 177 (400 * t + n_l M t) = w := (mI_ne (Or.inl (by decide))).trans y_mI1
  have e1 := y_fk (i := 175) (k := 1) f (by decide)
  have e8 := y_fk (i := 175) (k := 8) f (by decide)
  have e11' := y_fk (i := 175) (k := 11) f (by decide)
  have e12 := y_fk (i := 175) (k := 12) f (by decide)
  have ex : n_x (n_p M t w) = n_x M := by
    unfold n_x
    rw [e8]
  have es : n_s (n_p M t w) = n_s M := by
    unfold n_s
    rw [e1]
  have em : n_m (n_p M t w) = n_m M := by
    unfold n_m
    rw [e12]
  refine ⟨⟨⟨⟨H2, ht⟩, by rw [e11']; exact e11⟩, ⟨by rw [el, ex]; omega, by rw [ex, es]; exact hs⟩, ⟨by rw [el]; omega, ?_⟩, by rw [em]; exact hd⟩, ⟨y_fl hS f, ⟨by rw [el]; omega, fun q hq => eq q (by omega)⟩⟩, ex⟩
  rw [el, show n_l M t + 1 - a = (n_l M t - a) + 1 by omega]
  show (y_ev (y_sn (n_p M t w) t) a (n_l M t - a)).bind (y_st (y_sn (n_p M t w) t (a + (n_l M t - a)))) = some d2
  rw [y_evc (f := y_sn (n_p M t w) t) (g := y_sn M t) (fun j h1 h2 => eq _ (by omega)), hev, Option.bind_some, show a + (n_l M t - a) = n_l M t by omega]
  rw [show y_sn (n_p M t w) t (n_l M t) = w from ew]
  exact hw
/-! what steps do -/
theorem i_and15 {x : Int32} (h : 0 ≤ x.toInt) : (x &&& 15).toInt = x.toInt % 16 := by
  have e1 : x.toInt = (x.toBitVec.toNat : Int) := by
    show x.toBitVec.toInt = _
    rw [BitVec.toInt_eq_toNat_cond]
    have h2 : 0 ≤ x.toBitVec.toInt := h
    rw [BitVec.toInt_eq_toNat_cond] at h2
    split
    · rfl
    · rename_i h3
      rw [if_neg h3] at h2
      have := x.toBitVec.isLt
      omega
  have e2 : (x &&& 15).toBitVec.toNat = x.toBitVec.toNat % 16 := by
    rw [Int32.toBitVec_and, BitVec.toNat_and]
    exact Nat.and_two_pow_sub_one_eq_mod _ 4
  have e3 : (x &&& 15).toInt = ((x &&& 15).toBitVec.toNat : Int) := by
    show (x &&& 15).toBitVec.toInt = _
    rw [BitVec.toInt_eq_toNat_of_lt]
    omega
  rw [e3, e2, e1]
  omega
theorem y_stN {v : Int32} {d : Nat} (h : 0 ≤ v.toInt ∧ v.toInt ≤ 99999) (hd : d < 60) : y_st ((0 : Int32) + (16 : Int32) * v) d = some (d + 1) := by
  have a1 := i_mulL (c := (16 : Int32)) (x := v) (n := 16) rfl (by omega) (by omega)
  have a2 := i_cadd (c := (0 : Int32)) (x := (16 : Int32) * v) (n := 0) rfl (by omega) (by omega)
  have a3 := i_and15 (x := (0 : Int32) + (16 : Int32) * v) (by omega)
  have z : (0 : Int32).toInt = 0 := rfl
  have e : ((0 : Int32) + (16 : Int32) * v) &&& 15 = 0 := Int32.toInt_inj.mp (by omega)
  unfold y_st
  rw [if_pos e, if_pos hd]
theorem y_stW {v : Int32} {d : Nat} (h : 0 ≤ v.toInt ∧ v.toInt ≤ 13) (hd : d < 60) : y_st ((1 : Int32) + (16 : Int32) * v) d = some (d + 1) := by
  have hv : v = Int32.ofInt v.toInt := (Int32.ofInt_toInt v).symm
  have k : ∀ i : Fin 14, (¬ ((1 : Int32) + (16 : Int32) * Int32.ofNat i.val) &&& 15 = 0) ∧ ((1 : Int32) + (16 : Int32) * Int32.ofNat i.val) &&& 15 = 1 ∧ 0 ≤ (((1 : Int32) + (16 : Int32) * Int32.ofNat i.val) >>> 4).toInt ∧ (((1 : Int32) + (16 : Int32) * Int32.ofNat i.val) >>> 4).toInt < 14 := by decide
  have e : v = Int32.ofNat v.toInt.toNat := i_of (by omega) (by omega)
  have k1 := k ⟨v.toInt.toNat, by omega⟩
  rw [← e] at k1
  unfold y_st
  rw [if_neg k1.1, if_pos k1.2.1, if_pos ⟨k1.2.2, hd⟩]
/-- steps that join two -/
theorem y_stB {w : Int32} {d : Nat} (h : w = 2 ∨ w = 3 ∨ w = 4 ∨ w = 5 ∨ w = 6 ∨ w = 7 ∨ w = 8 ∨ w = 9 ∨ w = 10 ∨ w = 12 ∨ w = 13 ∨ w = 14) : y_st (w + (16 : Int32) * (0 : Int32)) (d + 2) = some (d + 1) := by
  have k : (¬ (w + (16 : Int32) * (0 : Int32)) &&& 15 = 0) ∧ (¬ (w + (16 : Int32) * (0 : Int32)) &&& 15 = 1) ∧ ¬ (w + (16 : Int32) * (0 : Int32)) &&& 15 = 11 := by
    rcases h with e | e | e | e | e | e | e | e | e | e | e | e <;> subst e <;> decide
  unfold y_st
  rw [if_neg k.1, if_neg k.2.1, if_neg k.2.2, if_pos (by omega)]
  rfl
theorem y_st11 {d : Nat} : y_st ((11 : Int32) + (16 : Int32) * (0 : Int32)) (d + 1) = some (d + 1) := by
  have k : (¬ ((11 : Int32) + (16 : Int32) * (0 : Int32)) &&& 15 = 0) ∧ (¬ ((11 : Int32) + (16 : Int32) * (0 : Int32)) &&& 15 = 1) ∧ ((11 : Int32) + (16 : Int32) * (0 : Int32)) &&& 15 = 11 := by decide
  unfold y_st
  rw [if_neg k.1, if_neg k.2.1, if_pos k.2.2, if_pos (by omega)]
/-! makes -/
def n_mk (M : gM) : gM := mI M 175 12 (Int32.ofNat (n_m M + 1))
theorem R_makes {p : Int32} {M : gM} (H : y_HT M) : F_X12_makes (some 175) p M = some (if n_m M = 60 then (0, n_f M 3 p) else (1, n_mk M)) := by
  have m1 := n_m1 H
  have z : (60 : Int32).toInt = 60 := rfl
  delta F_X12_makes F_X12_makes_b0
  rw [e_gI H, Option.bind_some]
  by_cases c : M.2.1 175 12 = 60
  · have := i_eq c
    rw [if_pos c, if_pos (by omega), e_gO H, Option.bind_some, R_fails H, Option.bind_some]
    dsimp only
    rw [if_pos (Or.inl rfl)]
  · have := i_ne c
    rw [if_neg c, if_neg (by omega), Option.bind_some, e_pI H, Option.bind_some, n_inc m1.1 (by omega)]
    rfl
theorem n_mk_set {M : gM} (H : y_HT M) (h : ¬ n_m M = 60) : (y_HT (n_mk M) ∧ y_Fr (2 ^ 12) M (n_mk M)) ∧ n_m (n_mk M) = n_m M + 1 := by
  have m1 := n_m1 H
  refine ⟨y_set (S := 2 ^ 12) H (i := 175) (k := 12) (v := Int32.ofNat (n_m M + 1)) (by decide) rfl rfl y_mI1 (fun j a hj => y_mI2 hj) rfl ?_ (by decide), ?_⟩
  · show y_rg (0, 60) _
    unfold y_rg
    rw [i_ofNat (by omega)]
    exact ⟨by omega, by show ((n_m M + 1 : Nat) : Int) ≤ 60; omega⟩
  · show ((n_mk M).2.1 175 12).toInt.toNat = _
    unfold n_mk
    rw [y_mI1, i_ofNat (by omega)]
    omega
theorem n_fx {S : Nat} {M M' : gM} (f : y_Fr S M M') (h : S.testBit 8 = false) : n_x M' = n_x M := by
  unfold n_x
  rw [y_fk (i := 175) (k := 8) f h]
theorem n_fs {S : Nat} {M M' : gM} (f : y_Fr S M M') (h : S.testBit 1 = false) : n_s M' = n_s M := by
  unfold n_s
  rw [y_fk (i := 175) (k := 1) f h]
theorem n_fm {S : Nat} {M M' : gM} (f : y_Fr S M M') (h : S.testBit 12 = false) : n_m M' = n_m M := by
  unfold n_m
  rw [y_fk (i := 175) (k := 12) f h]
theorem n_fo {S : Nat} {M M' : gM} (f : y_Fr S M M') (h : S.testBit 16 = false) : n_o M' = n_o M := by
  unfold n_o
  rw [y_fk (i := 175) (k := 16) f h]
theorem n_fl {S t : Nat} {M M' : gM} (f : y_Fr S M M') (h : S.testBit 43 = false) : n_l M' t = n_l M t := by
  unfold n_l
  rw [y_fa (i := 178) f (by decide) h t]
theorem n_fb {S : Nat} {M M' : gM} (f : y_Fr S M M') (h : S.testBit 41 = false) : n_b M' = n_b M := funext (fun q => y_fa (i := 176) f (by decide) h q)
theorem n_fle {S : Nat} {M M' : gM} (f : y_Fr S M M') (h : S.testBit 41 = false) (h1 : S.testBit 1 = false) : n_le M' = n_le M := by
  funext p
  unfold n_le n_L
  rw [n_fb f h, n_fs f h1]
theorem n_fsk {S : Nat} {M M' : gM} (f : y_Fr S M M') (h : S.testBit 41 = false) (h1 : S.testBit 1 = false) : n_sk M' = n_sk M := by
  funext p
  unfold n_sk n_B
  rw [n_fb f h, n_fs f h1]
/-! words -/
def n_wh (M : gM) (p : Nat) : Int32 :=
  if n_w M p 1751476594 = true then 0 else if n_w M p 499967946343 = true then 1 else if n_w M p 24947 = true then 2 else if n_w M p 491394656372 = true then 3 else if n_w M p 8319400191629685864 = true then 4 else if n_w M p 6383461 = true then 5 else if n_w M p 448311616883 = true then 6 else if n_w M p 1936682599 = true then 7 else if n_w M p 422877228660 = true then 8 else if n_w M p 1819243379 = true then 9 else if n_w M p 439854918756 = true then 10 else if n_w M p 2036687218 = true then 11 else if n_w M p 1935764837 = true then 12 else if n_w M p 461414299502 = true then 13 else -1
theorem n_sk_sk {M : gM} {p : Nat} : n_sk M (n_sk M p) = n_sk M p := n_sk_stop (by rw [n_sk_end]; decide)
theorem R_isW2 {w : Int64} {M : gM} {p : Nat} (H : y_HT M) (h : n_x M ≤ n_s M) (hp : p = n_sk M (n_x M)) : F_X12_isWord (some 175) w (n_at M p) = some (if n_w M p w = true then 1 else 0, n_at M p) := by
  subst hp
  have s1 := n_s1 H
  have k1 := n_sk_le h
  rw [R_isWord (n_atH H (by omega)) (by rw [n_at_x (by omega), n_at_s]; omega), n_at_x (by omega), n_at_sk, n_sk_sk, n_at_w, n_at_at]
theorem R_w_bind {β : Type} {w : Int64} {M : gM} {p : Nat} {f : Int32 × gM → Option β} (H : y_HT M) (h : n_x M ≤ n_s M) (hp : p = n_sk M (n_x M)) : (F_X12_isWord (some 175) w (n_at M p)).bind f = f (if n_w M p w = true then 1 else 0, n_at M p) := by
  rw [R_isW2 H h hp, Option.bind_some]
set_option maxHeartbeats 1000000 in
theorem R_wordHere {M : gM} {p : Nat} (H : y_HT M) (h : n_x M ≤ n_s M) (hp : p = n_sk M (n_x M)) : F_X12_wordHere (some 175) (n_at M p) = some (n_wh M p, n_at M p) := by
  have s1 := n_s1 H
  have k1 := n_sk_le h
  have H1 : y_HT (n_at M p) := n_atH H (by omega)
  have st : ∀ {w : Int64} {a b r : Int32} {X : Option (Int32 × gM)}, (X = some (r, n_at M p)) → (if (if n_w M p w = true then (1 : Int32) else 0) = 0 then X else some (b, n_at M p)) = some (if n_w M p w = true then b else r, n_at M p) := by
    intro w a b r X hX
    by_cases c : n_w M p w = true
    · rw [if_pos c, if_pos c, if_neg (by decide)]
    · rw [if_neg c, if_neg c, if_pos rfl, hX]
  delta F_X12_wordHere F_X12_wordHere_b0
  rw [e_gO H1, Option.bind_some, R_w_bind H h hp]
  unfold n_wh
  refine st (a := 0) ?_
  rw [e_gC H1, Option.bind_some, R_w_bind H h hp]
  refine st (a := 0) ?_
  rw [e_gC H1, Option.bind_some, R_w_bind H h hp]
  refine st (a := 0) ?_
  rw [e_gC H1, Option.bind_some, R_w_bind H h hp]
  refine st (a := 0) ?_
  rw [e_gC H1, Option.bind_some, R_w_bind H h hp]
  refine st (a := 0) ?_
  rw [e_gC H1, Option.bind_some, R_w_bind H h hp]
  refine st (a := 0) ?_
  rw [e_gC H1, Option.bind_some, R_w_bind H h hp]
  refine st (a := 0) ?_
  rw [e_gC H1, Option.bind_some, R_w_bind H h hp]
  refine st (a := 0) ?_
  rw [e_gC H1, Option.bind_some, R_w_bind H h hp]
  refine st (a := 0) ?_
  rw [e_gC H1, Option.bind_some, R_w_bind H h hp]
  refine st (a := 0) ?_
  rw [e_gC H1, Option.bind_some, R_w_bind H h hp]
  refine st (a := 0) ?_
  rw [e_gC H1, Option.bind_some, R_w_bind H h hp]
  refine st (a := 0) ?_
  rw [e_gC H1, Option.bind_some, R_w_bind H h hp]
  refine st (a := 0) ?_
  rw [e_gC H1, Option.bind_some, R_w_bind H h hp]
  refine st (a := 0) ?_
  rfl
theorem n_w_le {M : gM} {p : Nat} {w : Int64} (h : n_w M p w = true) : p < n_le M p := (of_decide_eq_true h).1
theorem n_wh_r {M : gM} {p : Nat} : (n_wh M p).toInt ≤ 13 ∧ (0 ≤ n_wh M p → p < n_le M p) := by
  unfold n_wh
  have st : ∀ {w : Int64} {b r : Int32}, (b.toInt ≤ 13) → (r.toInt ≤ 13 ∧ (0 ≤ r → p < n_le M p)) → ((if n_w M p w = true then b else r).toInt ≤ 13 ∧ (0 ≤ (if n_w M p w = true then b else r) → p < n_le M p)) := by
    intro w b r hb hr
    by_cases c : n_w M p w = true
    · rw [if_pos c]
      exact ⟨hb, fun _ => n_w_le c⟩
    · rw [if_neg c]
      exact hr
  refine st (by decide) (st (by decide) (st (by decide) (st (by decide) (st (by decide) (st (by decide) (st (by decide) (st (by decide) (st (by decide) (st (by decide) (st (by decide) (st (by decide) (st (by decide) (st (by decide) ⟨by decide, fun h => absurd h (by decide)⟩)))))))))))))
/-! value -/
theorem P_value {t a d c : Nat} {M : gM} (I : p_I t a d c M) : Ok (F_X12_value (some 175) M) (p_P p_E t a (d + 1) c M) := by
  have H := I.1.1.1
  have ht := I.1.1.2
  have hx := I.2.1
  have s1 := n_s1 H
  have k1 := n_sk_le hx.2
  obtain ⟨p, hp⟩ : ∃ p, p = n_sk M (n_x M) := ⟨_, rfl⟩
  rw [← hp] at k1
  have H1 : y_HT (n_at M p) := n_atH H (by omega)
  have I1 : p_I t a d c (n_at M p) := p_I_at I (by omega) (by omega)
  have F1 : p_F p_E t M (n_at M p) := p_F_at H (by omega) (by decide)
  have xe : (n_at M p).2.1 175 8 = Int32.ofNat p := n_at8
  have xi : (Int32.ofNat p).toInt = (p : Int) := i_ofNat (by omega)
  have x1 : n_x (n_at M p) = p := n_at_x (by omega)
  delta F_X12_value F_X12_value_b0 F_X12_value_b39
  rw [e_gO H, Option.bind_some, R_see H hx.2, Option.bind_some, ← hp]
  dsimp only
  rw [e_gI H1, Option.bind_some, Option.bind_some, e_gC H1, Option.bind_some, xe, R_isDigit H1 xi, Option.bind_some, n_at_D]
  by_cases cD : n_D M p = true
  · rw [if_pos cD, if_neg (by decide)]
    rw [R_numberHere (p := p) H1 (by rw [x1, n_at_s]; omega) (by rw [x1, n_at_sk, hp, n_sk_sk]), Option.bind_some, n_at_D, if_pos cD]
    have A1 : n_an (n_at M p) p = n_an M p := by
      unfold n_an n_v
      rw [n_at_de, n_at_b, n_at_at]
    have hlt : p < n_s M := (of_decide_eq_true cD).1
    have d1 : p < n_de M p := by
      rw [n_de_step cD]
      have := (n_de_le (M := M) (p := p + 1) (by omega)).1
      omega
    have d2 := (n_de_le (M := M) (p := p) (by omega)).2
    obtain ⟨H2, f2⟩ := n_an_set (p := p) H (by omega)
    rw [A1]
    have F2 : p_F p_E t M (n_an M p) := p_F_of f2 (by decide) (by decide) (by decide)
    by_cases cO : n_ok (n_at M p) p (0 : Int32).toInt (99999 : Int32).toInt = true
    · rw [if_pos cO]
      dsimp only
      rw [if_neg (by decide), e_gC H2, Option.bind_some, R_makes H2, Option.bind_some]
      have x2 : n_x (n_an M p) = n_de M p := by
        show ((n_an M p).2.1 175 8).toInt.toNat = _
        unfold n_an
        rw [mI_ne (Or.inr (by decide)), n_at8, i_ofNat (by omega)]
        omega
      by_cases cM : n_m (n_an M p) = 60
      · rw [if_pos cM]
        dsimp only
        rw [if_pos rfl]
        exact p_Pf H2 F2 (by decide) xi (by omega) (by decide)
      · rw [if_neg cM]
        dsimp only
        rw [if_neg (by decide)]
        obtain ⟨⟨H3, f3⟩, m3⟩ := n_mk_set H2 cM
        have I2 : p_I t a d (c + 1) (n_an M p) := p_I_of I H2 f2 (by decide) (by rw [x2]; omega) (by rw [n_fm f2 (by decide)]; exact Nat.le_refl _)
        have I3 : p_I t a d (c + 1) (n_mk (n_an M p)) := p_I_of I2 H3 f3 (by decide) ⟨by rw [n_fx f3 (by decide)]; exact I2.2.1.1, by rw [n_fx f3 (by decide)]; exact I2.2.1.2⟩ (by omega)
        have F3 : p_F p_E t M (n_mk (n_an M p)) := p_F_tr F2 (p_F_of f3 (by decide) (by decide) (by decide))
        have v3 : (n_mk (n_an M p)).2.1 175 10 = n_v M p := (mI_ne (Or.inr (by decide))).trans y_mI1
        have hm := I2.2.2.2
        have m2 := n_m1 H3
        have s3 := n_s1 H3
        rw [e_gI H3, Option.bind_some, e_gC H3, Option.bind_some, v3, R_puts H3 ht I3.1.2 (by have := I3.2.1; omega), Option.bind_some]
        obtain ⟨I4, F4, X4⟩ := p_puts (S := p_E) I3 (y_stN n_v_r (by omega)) (by omega) (by decide)
        exact p_P1 I4 (p_F_tr F3 F4) (by rw [X4, n_fx f3 (by decide), x2]; omega)
    · rw [if_neg cO]
      dsimp only
      rw [if_pos rfl]
      exact p_Pf H2 F2 (by decide) xi (by omega) (by decide)
  · rw [if_neg cD, if_pos rfl, R_wordHere H hx.2 hp, Option.bind_some]
    dsimp only
    have w1 := n_wh_r (M := M) (p := p)
    by_cases cw : 0 ≤ n_wh M p
    · have cw2 := i_le cw
      have z : (0 : Int32).toInt = 0 := rfl
      have hle := w1.2 cw
      rw [if_pos cw, e_gC H1, Option.bind_some, R_makes H1, Option.bind_some]
      by_cases cM : n_m (n_at M p) = 60
      · rw [if_pos cM]
        dsimp only
        rw [if_pos rfl]
        exact p_Pf H1 F1 (by decide) xi (by omega) (by decide)
      · rw [if_neg cM]
        dsimp only
        rw [if_neg (by decide)]
        obtain ⟨⟨H3, f3⟩, m3⟩ := n_mk_set H1 cM
        have x3 : n_x (n_mk (n_at M p)) = p := (n_fx f3 (by decide)).trans x1
        have s3 : n_s (n_mk (n_at M p)) = n_s M := (n_fs f3 (by decide)).trans n_at_s
        have l3 : n_le (n_mk (n_at M p)) p = n_le M p := (congrFun (n_fle f3 (by decide) (by decide)) p).trans n_at_le
        have I3 : p_I t a d c (n_mk (n_at M p)) := p_I_of I1 H3 f3 (by decide) ⟨by rw [n_fx f3 (by decide)]; exact I1.2.1.1, by rw [n_fx f3 (by decide)]; exact I1.2.1.2⟩ (by omega)
        have e2 := (n_le_le (M := M) (p := p) (by omega)).2
        rw [e_gC H3, Option.bind_some, R_passWord H3 (by rw [x3, s3]; omega), Option.bind_some, x3, l3]
        have I4 : p_I t a d (c + 1) (n_at (n_mk (n_at M p)) (n_le M p)) := p_I_at I3 (by have := I3.2.1.1; omega) (by rw [s3]; exact e2)
        have H4 := I4.1.1.1
        have m4 := n_m1 H4
        have mm : n_m (n_at (n_mk (n_at M p)) (n_le M p)) = n_m (n_at M p) + 1 := n_at_m.trans m3
        have s4 := n_s1 H4
        have hm := I1.2.2.2
        rw [e_gC H4, Option.bind_some, R_puts H4 ht I4.1.2 (by have := I4.2.1; omega), Option.bind_some]
        obtain ⟨I5, F5, X5⟩ := p_puts (S := p_E) I4 (y_stW (v := n_wh M p) ⟨by omega, w1.1⟩ (by omega)) (by omega) (by decide)
        exact p_P1 I5 (p_F_tr F1 (p_F_tr (p_F_of f3 (by decide) (by decide) (by decide)) (p_F_tr (p_F_at H3 (by omega) (by decide)) F5))) (by rw [X5, n_at_x (by omega)]; omega)
    · rw [if_neg cw, e_gC H1, Option.bind_some, R_fails H1, Option.bind_some]
      dsimp only
      rw [if_pos (Or.inl rfl)]
      exact p_Pf H1 F1 (by decide) xi (by omega) (by decide)
-- 53.sum
/-! term, sum, compare -/
theorem p_see {S t a d c : Nat} {M : gM} (I : p_I t a d c M) (hS : Nat.land (2 ^ 8) S = 2 ^ 8) : p_I t a d c (n_at M (n_sk M (n_x M))) ∧ p_F S t M (n_at M (n_sk M (n_x M))) := by
  have H := I.1.1.1
  have s1 := n_s1 H
  have k1 := n_sk_le I.2.1.2
  exact ⟨p_I_at I (by have := I.2.1; omega) (by omega), p_F_at H (by omega) hS⟩
/-- a sign that isn't NONE stands there -/
theorem n_c_lt {M : gM} {p : Nat} {w : Int32} (h : n_c M p = w) (hw : 0 ≤ w.toInt) : p < n_s M := by
  unfold n_c at h
  by_cases c : p < n_s M
  · exact c
  · rw [if_neg c] at h
    subst h
    exact absurd hw (by decide)
theorem p_next {S t a d c : Nat} {M : gM} (I : p_I t a d c M) (h : n_x M < n_s M) (hS : Nat.land (2 ^ 8) S = 2 ^ 8) : mI M 175 8 (M.2.1 175 8 + (1 : Int32)) = n_at M (n_x M + 1) ∧ p_I t a d (c + 1) (n_at M (n_x M + 1)) ∧ p_F S t M (n_at M (n_x M + 1)) ∧ n_x (n_at M (n_x M + 1)) = n_x M + 1 := by
  have s1 := n_s1 I.1.1.1
  exact ⟨n_next I.1.1.1, p_I_at I (by have := I.2.1; omega) (by omega), p_F_at I.1.1.1 (by omega) hS, n_at_x (by omega)⟩
theorem n_at_c {M : gM} {p q : Nat} : n_c (n_at M p) q = n_c M q := by
  unfold n_c
  rw [n_at_s, n_at_b]
/-- see, seen again -/
theorem R_see2 {M : gM} {p : Nat} (H : y_HT M) (h : n_x M ≤ n_s M) (hp : p = n_sk M (n_x M)) : F_X12_see (some 175) (n_at M p) = some (n_c M p, n_at M p) := by
  subst hp
  have s1 := n_s1 H
  have k1 := n_sk_le h
  rw [R_see (n_atH H (by omega)) (by rw [n_at_x (by omega), n_at_s]; omega), n_at_x (by omega), n_at_sk, n_sk_sk, n_at_c, n_at_at]
theorem n_Fs {S t : Nat} {M M' : gM} (f : p_F S t M M') (h : S.testBit 1 = false) : n_s M' = n_s M := n_fs f.1 h
theorem P_term_b74 {t a d c : Nat} {s : Int32} {M : gM} {k : Option Nat → gM → Option (Int32 × gM)} (hs : s = 4 ∨ s = 5 ∨ s = 14) (hk : ∀ {M1 : gM}, p_I t a (d + 1) c M1 → n_x M < n_x M1 → n_s M1 = n_s M → Ok (k (some 175) M1) (p_P p_E t a (d + 1) c M1)) (I : p_I t a (d + 1) c M) (hx : n_x M < n_s M) : Ok (F_X12_term_b74 k (some 175) s M) (p_P p_E t a (d + 1) c M) := by
  have H := I.1.1.1
  obtain ⟨e1, I1, F1, x1⟩ := p_next (S := p_E) I hx (by decide)
  delta F_X12_term_b74
  rw [e_gI H, Option.bind_some, e_pI H, Option.bind_some, e1]
  generalize n_at M (n_x M + 1) = M1 at I1 F1 x1 ⊢
  have H1 := I1.1.1.1
  rw [e_gO H1, Option.bind_some]
  refine Ok_b (P_value I1) (fun y z => ?_)
  obtain ⟨v4, M5⟩ := y
  obtain ⟨⟨H5, F5⟩, ⟨h5, g5⟩ | ⟨h5, I5, x5⟩⟩ := z
  · dsimp only at h5 g5 H5 F5 ⊢
    subst h5
    rw [if_pos rfl]
    exact p_P0 H5 (p_F_tr F1 F5) g5
  · dsimp only at h5 I5 H5 F5 x5 ⊢
    subst h5
    rw [if_neg (by decide), e_gC H5, Option.bind_some, R_puts H5 I5.1.1.2 I5.1.2 (by have := I5.2.1; have := n_s1 H5; omega), Option.bind_some]
    obtain ⟨I6, F6, x6⟩ := p_puts (S := p_E) (d2 := d + 1) I5 (y_stB (w := s) (by rcases hs with e | e | e <;> subst e <;> decide)) (by have := I5.2.2.2; omega) (by decide)
    have F := p_F_tr F1 (p_F_tr F5 F6)
    exact p_Pw F (by omega) (hk I6 (by omega) (n_Fs F (by decide))) (by decide)
theorem P_term_L9 {t a d c : Nat} : ∀ (n : Nat) {M : gM}, p_I t a (d + 1) c M → n_s M - n_x M < n → Ok (F_X12_term_L9 n (some 175) M) (p_P p_E t a (d + 1) c M) := by
  intro n
  induction n with
  | zero => intro M I h; omega
  | succ n ih =>
    intro M I h
    show Ok (F_X12_term_b9 (F_X12_term_L9 n) (some 175) M) _
    have H := I.1.1.1
    have hx := I.2.1
    have s1 := n_s1 H
    obtain ⟨p, hp⟩ : ∃ p, p = n_sk M (n_x M) := ⟨_, rfl⟩
    have k1 := n_sk_le hx.2
    obtain ⟨I1, F1⟩ := p_see (S := p_E) I (by decide)
    rw [← hp] at I1 F1 k1
    have H1 := I1.1.1.1
    have x1 : n_x (n_at M p) = p := n_at_x (by omega)
    have s2 : n_s (n_at M p) = n_s M := n_at_s
    have go : ∀ {w : Int32}, n_c M p = w → 0 ≤ w.toInt → Ok (F_X12_term_b36 (F_X12_term_L9 n) (some 175) (n_at M p)) (p_P p_E t a (d + 1) c M) := by
      intro w hw hw0
      have hlt := n_c_lt hw hw0
      refine p_Pw (S1 := p_E) F1 (by omega) ?_ (by decide)
      have b74 : ∀ {s : Int32}, s = 4 ∨ s = 5 ∨ s = 14 → Ok (F_X12_term_b74 (F_X12_term_L9 n) (some 175) s (n_at M p)) (p_P p_E t a (d + 1) c (n_at M p)) := fun hs => P_term_b74 hs (fun I2 a1 a2 => ih I2 (by omega)) I1 (by omega)
      have x8 : ((n_at M p).2.1 175 8).toInt = (p : Int) := by
        rw [n_at8]
        exact i_ofNat (by omega)
      delta F_X12_term_b36
      rw [e_gR H1 (w := 176) rfl (by decide), Option.bind_some, e_gI H1, Option.bind_some, e_aI H1 (t := 22) (i := 176) (n := 400) rfl (by decide) (by omega) (by omega), Option.bind_some]
      refine Ok_i (fun _ => b74 (Or.inl rfl)) (fun _ => ?_)
      rw [Option.bind_some, Option.bind_some, e_aI H1 (t := 22) (i := 176) (n := 400) rfl (by decide) (by omega) (by omega), Option.bind_some]
      exact Ok_i (fun _ => b74 (Or.inr (Or.inl rfl))) (fun _ => b74 (Or.inr (Or.inr rfl)))
    delta F_X12_term_b9
    rw [e_gO H, Option.bind_some, R_see H hx.2, ← hp, Option.bind_some]
    dsimp only
    refine Ok_i (fun e => go e (by decide)) (fun _ => ?_)
    rw [e_gC H1, Option.bind_some, R_see2 H hx.2 hp, Option.bind_some]
    dsimp only
    refine Ok_i (fun e => go e (by decide)) (fun _ => ?_)
    rw [e_gC H1, Option.bind_some, R_see2 H hx.2 hp, Option.bind_some]
    dsimp only
    refine Ok_i (fun e => go e (by decide)) (fun _ => ?_)
    exact p_P1 I1 F1 (by omega)
theorem P_term {t a d c : Nat} {M : gM} (I : p_I t a d c M) : Ok (F_X12_term (some 175) M) (p_P p_E t a (d + 1) c M) := by
  have H := I.1.1.1
  delta F_X12_term F_X12_term_b0
  rw [e_gO H, Option.bind_some]
  refine Ok_b (P_value I) (fun y z => ?_)
  obtain ⟨v2, M3⟩ := y
  obtain ⟨⟨H3, F3⟩, ⟨h3, g3⟩ | ⟨h3, I3, x3⟩⟩ := z
  · dsimp only at h3 g3 H3 F3 ⊢
    subst h3
    rw [if_pos rfl]
    exact p_P0 H3 F3 g3
  · dsimp only at h3 I3 H3 F3 x3 ⊢
    subst h3
    rw [if_neg (by decide)]
    have s3 := n_s1 H3
    exact p_Pw F3 x3 (P_term_L9 _ I3 (n_fu (by omega))) (by decide)
theorem P_sum_b46 {t a d c : Nat} {s : Int32} {M : gM} {k : Option Nat → gM → Option (Int32 × gM)} (hs : s = 2 ∨ s = 3) (hk : ∀ {M1 : gM}, p_I t a (d + 1) c M1 → n_x M < n_x M1 → n_s M1 = n_s M → Ok (k (some 175) M1) (p_P p_E t a (d + 1) c M1)) (I : p_I t a (d + 1) c M) (hx : n_x M < n_s M) : Ok (F_X12_sum_b46 k (some 175) s M) (p_P p_E t a (d + 1) c M) := by
  have H := I.1.1.1
  obtain ⟨e1, I1, F1, x1⟩ := p_next (S := p_E) I hx (by decide)
  delta F_X12_sum_b46
  rw [e_gI H, Option.bind_some, e_pI H, Option.bind_some, e1]
  generalize n_at M (n_x M + 1) = M1 at I1 F1 x1 ⊢
  have H1 := I1.1.1.1
  rw [e_gO H1, Option.bind_some]
  refine Ok_b (P_term I1) (fun y z => ?_)
  obtain ⟨v4, M5⟩ := y
  obtain ⟨⟨H5, F5⟩, ⟨h5, g5⟩ | ⟨h5, I5, x5⟩⟩ := z
  · dsimp only at h5 g5 H5 F5 ⊢
    subst h5
    rw [if_pos rfl]
    exact p_P0 H5 (p_F_tr F1 F5) g5
  · dsimp only at h5 I5 H5 F5 x5 ⊢
    subst h5
    rw [if_neg (by decide), e_gC H5, Option.bind_some, R_puts H5 I5.1.1.2 I5.1.2 (by have := I5.2.1; have := n_s1 H5; omega), Option.bind_some]
    obtain ⟨I6, F6, x6⟩ := p_puts (S := p_E) (d2 := d + 1) I5 (y_stB (w := s) (by rcases hs with e | e <;> subst e <;> decide)) (by have := I5.2.2.2; omega) (by decide)
    have F := p_F_tr F1 (p_F_tr F5 F6)
    exact p_Pw F (by omega) (hk I6 (by omega) (n_Fs F (by decide))) (by decide)
theorem P_sum_L9 {t a d c : Nat} : ∀ (n : Nat) {M : gM}, p_I t a (d + 1) c M → n_s M - n_x M < n → Ok (F_X12_sum_L9 n (some 175) M) (p_P p_E t a (d + 1) c M) := by
  intro n
  induction n with
  | zero => intro M I h; omega
  | succ n ih =>
    intro M I h
    show Ok (F_X12_sum_b9 (F_X12_sum_L9 n) (some 175) M) _
    have H := I.1.1.1
    have hx := I.2.1
    have s1 := n_s1 H
    obtain ⟨p, hp⟩ : ∃ p, p = n_sk M (n_x M) := ⟨_, rfl⟩
    have k1 := n_sk_le hx.2
    obtain ⟨I1, F1⟩ := p_see (S := p_E) I (by decide)
    rw [← hp] at I1 F1 k1
    have H1 := I1.1.1.1
    have x1 : n_x (n_at M p) = p := n_at_x (by omega)
    have s2 : n_s (n_at M p) = n_s M := n_at_s
    have go : ∀ {w : Int32}, n_c M p = w → 0 ≤ w.toInt → Ok (F_X12_sum_b27 (F_X12_sum_L9 n) (some 175) (n_at M p)) (p_P p_E t a (d + 1) c M) := by
      intro w hw hw0
      have hlt := n_c_lt hw hw0
      refine p_Pw (S1 := p_E) F1 (by omega) ?_ (by decide)
      have b46 : ∀ {s : Int32}, s = 2 ∨ s = 3 → Ok (F_X12_sum_b46 (F_X12_sum_L9 n) (some 175) s (n_at M p)) (p_P p_E t a (d + 1) c (n_at M p)) := fun hs => P_sum_b46 hs (fun I2 a1 a2 => ih I2 (by omega)) I1 (by omega)
      have x8 : ((n_at M p).2.1 175 8).toInt = (p : Int) := by
        rw [n_at8]
        exact i_ofNat (by omega)
      delta F_X12_sum_b27
      rw [e_gR H1 (w := 176) rfl (by decide), Option.bind_some, e_gI H1, Option.bind_some, e_aI H1 (t := 22) (i := 176) (n := 400) rfl (by decide) (by omega) (by omega), Option.bind_some]
      exact Ok_i (fun _ => b46 (Or.inl rfl)) (fun _ => b46 (Or.inr rfl))
    delta F_X12_sum_b9
    rw [e_gO H, Option.bind_some, R_see H hx.2, ← hp, Option.bind_some]
    dsimp only
    refine Ok_i (fun e => go e (by decide)) (fun _ => ?_)
    rw [e_gC H1, Option.bind_some, R_see2 H hx.2 hp, Option.bind_some]
    dsimp only
    refine Ok_i (fun e => go e (by decide)) (fun _ => ?_)
    exact p_P1 I1 F1 (by omega)
theorem P_sum {t a d c : Nat} {M : gM} (I : p_I t a d c M) : Ok (F_X12_sum (some 175) M) (p_P p_E t a (d + 1) c M) := by
  have H := I.1.1.1
  delta F_X12_sum F_X12_sum_b0
  rw [e_gO H, Option.bind_some]
  refine Ok_b (P_term I) (fun y z => ?_)
  obtain ⟨v2, M3⟩ := y
  obtain ⟨⟨H3, F3⟩, ⟨h3, g3⟩ | ⟨h3, I3, x3⟩⟩ := z
  · dsimp only at h3 g3 H3 F3 ⊢
    subst h3
    rw [if_pos rfl]
    exact p_P0 H3 F3 g3
  · dsimp only at h3 I3 H3 F3 x3 ⊢
    subst h3
    rw [if_neg (by decide)]
    have s3 := n_s1 H3
    exact p_Pw F3 x3 (P_sum_L9 _ I3 (n_fu (by omega))) (by decide)
theorem P_compare_b152 {t a d c : Nat} {s : Int32} {M : gM} (hs : s = 0 ∨ s = 1 ∨ s = 2 ∨ s = 3 ∨ s = 4) (I : p_I t a (d + 1) (c + 1) M) : Ok (F_X12_compare_b152 (some 175) s M) (p_P p_E t a (d + 1) c M) := by
  have H := I.1.1.1
  delta F_X12_compare_b152
  rw [e_gO H, Option.bind_some]
  refine Ok_b (P_sum I) (fun y z => ?_)
  obtain ⟨v2, M3⟩ := y
  obtain ⟨⟨H3, F3⟩, ⟨h3, g3⟩ | ⟨h3, I3, x3⟩⟩ := z
  · dsimp only at h3 g3 H3 F3 ⊢
    subst h3
    rw [if_pos rfl]
    exact p_P0 H3 F3 g3
  · dsimp only at h3 I3 H3 F3 x3 ⊢
    subst h3
    rw [if_neg (by decide), e_gC H3, Option.bind_some, R_puts H3 I3.1.1.2 I3.1.2 (by have := I3.2.1; have := n_s1 H3; omega), Option.bind_some]
    obtain ⟨I6, F6, x6⟩ := p_puts (S := p_E) (d2 := d + 1) I3 (y_stB (w := (6 : Int32) + s) (by rcases hs with e | e | e | e | e <;> subst e <;> decide)) (by have := I3.2.2.2; omega) (by decide)
    exact p_P1 I6 (p_F_tr F3 F6) (by omega)
theorem P_compare_b105 {t a d c q : Nat} {l1 l2 l3 : Int32} {M : gM} (hl : l2.toInt = (q : Int)) (hq : q ≤ 400) (I : p_I t a (d + 1) (c + 1) M) : Ok (F_X12_compare_b105 (some 175) l1 l2 l3 M) (p_P p_E t a (d + 1) c M) := by
  have H := I.1.1.1
  delta F_X12_compare_b105
  rw [e_gO H, Option.bind_some, R_makes H, Option.bind_some]
  by_cases cM : n_m M = 60
  · rw [if_pos cM]
    dsimp only
    rw [if_pos rfl]
    exact p_Pf H p_F_rf (by decide) hl hq (by decide)
  · rw [if_neg cM]
    dsimp only
    rw [if_neg (by decide)]
    obtain ⟨⟨H3, f3⟩, m3⟩ := n_mk_set H cM
    have x3 := n_fx f3 (by decide)
    have I3 : p_I t a (d + 1) (c + 1) (n_mk M) := p_I_of I H3 f3 (by decide) ⟨by rw [x3]; exact I.2.1.1, by rw [x3]; exact I.2.1.2⟩ (by omega)
    have F3 : p_F p_E t M (n_mk M) := p_F_of f3 (by decide) (by decide) (by decide)
    refine p_Pw (S1 := p_E) F3 (by omega) ?_ (by decide)
    refine Ok_i (fun _ => Ok_i (fun _ => ?_) (fun _ => ?_)) (fun _ => Ok_i (fun _ => ?_) (fun _ => Ok_i (fun _ => ?_) (fun _ => ?_)))
    · exact P_compare_b152 (by decide) I3
    · exact P_compare_b152 (by decide) I3
    · exact P_compare_b152 (by decide) I3
    · exact P_compare_b152 (by decide) I3
    · exact P_compare_b152 (by decide) I3
theorem P_compare_b44 {t a d c : Nat} {l1 l2 : Int32} {M : gM} (hl : l2.toInt = (n_x M : Int)) (hlt : n_x M < n_s M) (I : p_I t a (d + 1) c M) : Ok (F_X12_compare_b44 (some 175) l1 l2 M) (p_P p_E t a (d + 1) c M) := by
  have H := I.1.1.1
  have s1 := n_s1 H
  obtain ⟨e1, I1, F1, x1⟩ := p_next (S := p_E) I hlt (by decide)
  have es : n_s (n_at M (n_x M + 1)) = n_s M := n_at_s
  delta F_X12_compare_b44 F_X12_compare_b89 F_X12_compare_b90
  rw [e_gI H, Option.bind_some, e_pI H, Option.bind_some, e1]
  generalize n_at M (n_x M + 1) = M1 at I1 F1 x1 es ⊢
  have H1 := I1.1.1.1
  have s2 := n_s1 H1
  have y1 := n_x1 H1
  refine p_Pw (S1 := p_E) F1 (by omega) ?_ (by decide)
  have b0 : Ok (if (0 : Int32) = 0 then F_X12_compare_b105 (some 175) l1 l2 (0 : Int32) M1 else (gI 12 M1 (some 175) 8).bind fun v1 => (pI 12 M1 (some 175) 8 (v1 + (1 : Int32))).bind fun M2 => F_X12_compare_b105 (some 175) l1 l2 (0 : Int32) M2) (p_P p_E t a (d + 1) c M1) := by
    rw [if_pos rfl]
    exact P_compare_b105 hl (by omega) I1
  refine Ok_i (fun _ => b0) (fun _ => ?_)
  rw [e_gI H1, Option.bind_some, e_gI H1, Option.bind_some]
  refine Ok_i (fun _ => b0) (fun c2 => ?_)
  have c2' := i_nle c2
  rw [e_gR H1 (w := 176) rfl (by decide), Option.bind_some, Option.bind_some, e_aI H1 (t := 22) (i := 176) (n := 400) rfl (by decide) (by omega) (by omega), Option.bind_some]
  refine Ok_i (fun _ => ?_) (fun _ => b0)
  obtain ⟨e2, I2, F2, x2⟩ := p_next (S := p_E) I1 (by omega) (by decide)
  rw [if_neg (by decide), Option.bind_some, e_pI H1, Option.bind_some, e2]
  refine p_Pw (S1 := p_E) F2 (by omega) ?_ (by decide)
  refine P_compare_b105 hl (by omega) (p_I_of I2 I2.1.1.1 (y_rf0 0 _) (by decide) ⟨?_, I2.2.1.2⟩ (Nat.le_refl _))
  have := I2.2.1.1
  omega
theorem P_compare {t a d c : Nat} {M : gM} (I : p_I t a d c M) : Ok (F_X12_compare (some 175) M) (p_P p_E t a (d + 1) c M) := by
  have H := I.1.1.1
  delta F_X12_compare F_X12_compare_b0
  rw [e_gO H, Option.bind_some]
  refine Ok_b (P_sum I) (fun y z => ?_)
  obtain ⟨v2, M3⟩ := y
  obtain ⟨⟨H3, F3⟩, ⟨h3, g3⟩ | ⟨h3, I3, x3⟩⟩ := z
  · dsimp only at h3 g3 H3 F3 ⊢
    subst h3
    rw [if_pos rfl]
    exact p_P0 H3 F3 g3
  dsimp only at h3 I3 H3 F3 x3 ⊢
  subst h3
  have s3 := n_s1 H3
  have hx := I3.2.1
  obtain ⟨p, hp⟩ : ∃ p, p = n_sk M3 (n_x M3) := ⟨_, rfl⟩
  have k1 := n_sk_le hx.2
  obtain ⟨I6, F6⟩ := p_see (S := p_E) I3 (by decide)
  rw [← hp] at I6 F6 k1
  have H6 := I6.1.1.1
  have x6 : n_x (n_at M3 p) = p := n_at_x (by omega)
  have s6 : n_s (n_at M3 p) = n_s M3 := n_at_s
  have v7 : (n_at M3 p).2.1 175 8 = Int32.ofNat p := n_at8
  have xi : (Int32.ofNat p).toInt = (p : Int) := i_ofNat (by omega)
  rw [if_neg (by decide), e_gC H3, Option.bind_some, R_see H3 hx.2, ← hp, Option.bind_some]
  dsimp only
  rw [e_gI H6, Option.bind_some, v7]
  have go : ∀ {w : Int32}, n_c M3 p = w → 0 ≤ w.toInt → Ok (F_X12_compare_b44 (some 175) (n_c M3 p) (Int32.ofNat p) (n_at M3 p)) (p_P p_E t a (d + 1) c M) := by
    intro w hw hw0
    have hlt := n_c_lt hw hw0
    exact p_Pw (p_F_tr F3 F6) (by omega) (P_compare_b44 (by rw [x6]; exact xi) (by omega) I6) (by decide)
  refine Ok_i (fun e => go e (by decide)) (fun _ => Ok_i (fun e => go e (by decide)) (fun _ => Ok_i (fun e => go e (by decide)) (fun _ => ?_)))
  rw [e_gC H6, Option.bind_some, R_fails H6, Option.bind_some]
  dsimp only
  rw [if_pos (Or.inl rfl)]
  exact p_Pf H6 (p_F_tr F3 F6) (by decide) xi (by omega) (by decide)
-- 54.test
/-! TESTS: signs that wait -/
def n_st (s : Int32) : Int32 := if s = 13 then 1 else if s = 12 then 2 else if s = 11 then 3 else 0
theorem R_strength {s : Int32} {M : gM} : F_X12_strength s M = some (n_st s) := by
  delta F_X12_strength F_X12_strength_b0
  unfold n_st
  split
  · rfl
  · split
    · rfl
    · split <;> rfl
/-- how many of the waiting signs join two -/
def p_nb (f : Nat → Int32) : Nat → Nat
  | 0 => 0
  | n + 1 => p_nb f n + (if f n = 12 ∨ f n = 13 then 1 else 0)
theorem p_nb_c {f g : Nat → Int32} : ∀ {n : Nat}, (∀ k, k < n → f k = g k) → p_nb f n = p_nb g n := by
  intro n
  induction n with
  | zero => intro _; rfl
  | succ n ih =>
    intro h
    unfold p_nb
    rw [ih (fun k hk => h k (by omega)), h n (by omega)]
def n_w2 (M : gM) : Nat → Int32 := M.2.1 182
def p_wt (f : Nat → Int32) (n : Nat) : Prop := ∀ k, k < n → f k = 91 ∨ f k = 11 ∨ f k = 12 ∨ f k = 13
/-- while a TEST is read: e is 0 ahead of a FACT, 1 behind it -/
def p_J (t a e c : Nat) (M : gM) : Prop := p_I t a (p_nb (n_w2 M) (n_o M) + e) (n_o M + c) M ∧ p_wt (n_w2 M) (n_o M)
abbrev p_T : Nat := 2 ^ 8 + 2 ^ 9 + 2 ^ 10 + 2 ^ 12 + 2 ^ 13 + 2 ^ 16 + 2 ^ 42 + 2 ^ 43 + 2 ^ 47
def p_Q (S t a e c : Nat) (M : gM) : Int32 × gM → Prop := fun r => (y_HT r.2 ∧ p_F S t M r.2) ∧ ((r.1 = 0 ∧ r.2.2.1 175 9 ≠ 0) ∨ (r.1 = 1 ∧ p_J t a e c r.2 ∧ n_x M ≤ n_x r.2))
theorem p_Q0 {S t a d c : Nat} {M M' : gM} (H : y_HT M') (f : p_F S t M M') (h : M'.2.1 175 9 ≠ 0) : Ok (some ((0 : Int32), M')) (p_Q S t a d c M) := Ok_s ⟨⟨H, f⟩, Or.inl ⟨rfl, h⟩⟩
theorem p_Q1 {S t a d c : Nat} {M M' : gM} (I : p_J t a d c M') (f : p_F S t M M') (hx : n_x M ≤ n_x M') : Ok (some ((1 : Int32), M')) (p_Q S t a d c M) := Ok_s ⟨⟨I.1.1.1.1, f⟩, Or.inr ⟨rfl, I, hx⟩⟩
theorem p_Qw {S S1 t a d c : Nat} {M M1 : gM} {o : Option (Int32 × gM)} (f : p_F S t M M1) (hx : n_x M ≤ n_x M1) (h : Ok o (p_Q S1 t a d c M1)) (hS : Nat.land S1 S = S1) : Ok o (p_Q S t a d c M) := Ok_w h (fun _ z => ⟨⟨z.1.1, p_F_tr f (p_F_fl hS z.1.2)⟩, z.2.imp id (fun w => ⟨w.1, w.2.1, Nat.le_trans hx w.2.2⟩)⟩)
theorem p_Qf {S t a d c : Nat} {M M1 : gM} {k p : Int32} {q : Nat} (H : y_HT M1) (f : p_F S t M M1) (hS : Nat.land (2 ^ 9) S = 2 ^ 9) (hp : p.toInt = (q : Int)) (hq : q ≤ 400) (hk : 0 ≤ k.toInt ∧ k.toInt ≤ 4) : Ok (some ((0 : Int32), n_f M1 k p)) (p_Q S t a d c M) :=
  p_Q0 (n_f_set H).1 (p_F_tr f (p_F_f H hS)) (n_f9 hp hq hk)
/-- what leaves the waiting signs alone -/
theorem p_J_of {S t a e c2 : Nat} {M M' : gM} (W : p_wt (n_w2 M) (n_o M)) (f : y_Fr S M M') (h : Nat.land S (2 ^ 16 + 2 ^ 47) = 0) (I : p_I t a (p_nb (n_w2 M) (n_o M) + e) (n_o M + c2) M') : p_J t a e c2 M' := by
  have o := n_fo f (y_dis h (by decide))
  have w : n_w2 M' = n_w2 M := funext (fun q => y_fa (i := 182) f (by decide) (y_dis h (by decide)) q)
  unfold p_J
  rw [o, w]
  exact ⟨I, W⟩
theorem p_J_at {t a e c c2 p : Nat} {M : gM} (J : p_J t a e c M) (h : n_l M t + n_o M + c2 ≤ p) (hp : p ≤ n_s M) : p_J t a e c2 (n_at M p) := by
  have s1 := n_s1 J.1.1.1.1
  exact p_J_of J.2 (n_at_set J.1.1.1.1 (by omega)).2 (by decide) (p_I_at J.1 (by omega) hp)
/-- a sign waits -/
def n_op (M : gM) (w : Int32) : gM := mI (mI M 182 (n_o M) w) 175 16 (Int32.ofNat (n_o M + 1))
theorem n_op_set {M : gM} {w : Int32} (H : y_HT M) (h : n_o M < 400) : y_HT (n_op M w) ∧ y_Fr (2 ^ 16 + 2 ^ 47) M (n_op M w) := by
  obtain ⟨H1, f1⟩ := y_set (M' := mI M 182 (n_o M) w) (S := 2 ^ 16 + 2 ^ 47) H (i := 182) (k := n_o M) (by decide) rfl rfl y_mI1 (fun j a hj => y_mI2 hj) rfl (y_full rfl) (show Nat.testBit (2 ^ 16 + 2 ^ 47) 47 = true by decide)
  obtain ⟨H2, f2⟩ := y_set (M' := n_op M w) (S := 2 ^ 16 + 2 ^ 47) H1 (i := 175) (k := 16) (by decide) rfl rfl y_mI1 (fun j a hj => y_mI2 hj) rfl (by
    show y_rg (0, 400) _
    unfold y_rg
    rw [i_ofNat (by omega)]
    exact ⟨by omega, by show ((n_o M + 1 : Nat) : Int) ≤ 400; omega⟩) (by decide)
  exact ⟨H2, y_tr f1 f2⟩
theorem n_op_o {M : gM} {w : Int32} (h : n_o M < 400) : n_o (n_op M w) = n_o M + 1 := by
  show ((n_op M w).2.1 175 16).toInt.toNat = _
  unfold n_op
  rw [y_mI1, i_ofNat (by omega)]
  omega
theorem n_op_w {M : gM} {w : Int32} : n_w2 (n_op M w) (n_o M) = w ∧ ∀ k, k ≠ n_o M → n_w2 (n_op M w) k = n_w2 M k :=
  ⟨(mI_ne (Or.inl (by decide))).trans y_mI1, fun k hk => (mI_ne (Or.inl (by decide))).trans (mI_ne (Or.inr hk))⟩
theorem p_J_op {S t a c : Nat} {e e2 : Nat} {M : gM} {w : Int32} (J : p_J t a e c M) (h : n_o M < 400) (hw : w = 91 ∨ w = 11 ∨ w = 12 ∨ w = 13) (he : e = (if w = 12 ∨ w = 13 then 1 else 0) + e2) (hc : n_l M t + n_o M + 1 + c ≤ n_x M) (hS : Nat.land (2 ^ 16 + 2 ^ 47) S = 2 ^ 16 + 2 ^ 47) : p_J t a e2 c (n_op M w) ∧ p_F S t M (n_op M w) ∧ n_x (n_op M w) = n_x M := by
  have H := J.1.1.1.1
  obtain ⟨H2, f2⟩ := n_op_set (w := w) H h
  have o2 := n_op_o (w := w) h
  have x2 := n_fx f2 (by decide)
  have e1 : p_nb (n_w2 (n_op M w)) (n_o M) = p_nb (n_w2 M) (n_o M) := p_nb_c (fun k hk => n_op_w.2 k (by omega))
  refine ⟨⟨?_, ?_⟩, p_F_of f2 hS (by decide) (by decide), x2⟩
  · rw [o2]
    show p_I t a (p_nb (n_w2 (n_op M w)) (n_o M) + (if n_w2 (n_op M w) (n_o M) = 12 ∨ n_w2 (n_op M w) (n_o M) = 13 then 1 else 0) + e2) (n_o M + 1 + c) (n_op M w)
    rw [e1, n_op_w.1, Nat.add_assoc, ← he]
    exact p_I_of J.1 H2 f2 (by decide) ⟨by rw [x2]; omega, by rw [x2]; exact J.1.2.1.2⟩ (by rw [n_fm f2 (by decide)]; exact Nat.le_refl _)
  · rw [o2]
    intro k hk
    rcases Nat.lt_or_ge k (n_o M) with h1 | h1
    · rw [n_op_w.2 k (by omega)]
      exact J.2 k h1
    · have : k = n_o M := by omega
      subst this
      rw [n_op_w.1]
      exact hw
theorem R_opens {w : Int32} {M : gM} (H : y_HT M) (h : n_o M < 400) : F_X12_opens (some 175) w M = some (if M.2.1 175 13 = 10 then (0, n_f M 2 (M.2.1 175 8)) else (1, n_op (mI M 175 13 (M.2.1 175 13 + (1 : Int32))) w)) := by
  delta F_X12_opens F_X12_opens_b0
  have o1 := n_o1 H
  simp only [e_gI H, e_gO H, e_pI H, Option.bind_some, R_fails H]
  by_cases c : M.2.1 175 13 = 10
  · rw [if_pos c, if_pos c, if_pos (Or.inl trivial)]
  · rw [if_neg c, if_neg c]
    obtain ⟨M1, hM1⟩ : ∃ M1, M1 = mI M 175 13 (M.2.1 175 13 + (1 : Int32)) := ⟨_, rfl⟩
    have H1 : y_HT M1 := by
      subst hM1
      exact (y_set (M' := mI M 175 13 (M.2.1 175 13 + (1 : Int32))) (S := 2 ^ 13) H (i := 175) (k := 13) (by decide) rfl rfl y_mI1 (fun j a hj => y_mI2 hj) rfl (y_full rfl) (by decide)).1
    have o2 : M1.2.1 175 16 = M.2.1 175 16 := by
      subst hM1
      exact mI_ne (Or.inr (by decide))
    have n2 : n_o M1 = n_o M := by
      unfold n_o
      rw [o2]
    rw [← hM1]
    have H2 : y_HT (mI M1 182 (n_o M1) w) := (y_set (M' := mI M1 182 (n_o M1) w) (S := 2 ^ 47) H1 (i := 182) (k := n_o M1) (by decide) rfl rfl y_mI1 (fun j a hj => y_mI2 hj) rfl (y_full rfl) (show Nat.testBit (2 ^ 47) 47 = true by decide)).1
    have o3 : (mI M1 182 (n_o M1) w).2.1 175 16 = M1.2.1 175 16 := mI_ne (Or.inl (by decide))
    rw [e_gR H1 (w := 182) rfl (by decide), Option.bind_some, e_gI H1, Option.bind_some, e_sI H1 (i := 182) (n := 400) rfl (by rw [o2]; omega) (by rw [o2]; omega), Option.bind_some, show (M1.2.1 175 16).toNatClampNeg = n_o M1 from rfl, e_gI H2, Option.bind_some, e_pI H2, Option.bind_some, o3, n_inc (x := M1.2.1 175 16) (n := n_o M1) (by rw [o2, n2]; exact o1.1) (by omega)]
    rfl
/-- opens: what waits -/
theorem P_opens {t a c : Nat} {w : Int32} {M : gM} (hw : w = 91 ∨ w = 11) (J : p_J t a 0 c M) (h : n_o M < 400) (hc : n_l M t + n_o M + c ≤ n_x M) : Ok (F_X12_opens (some 175) w M) (fun r => (y_HT r.2 ∧ p_F p_T t M r.2) ∧ ((r.1 = 0 ∧ r.2.2.1 175 9 ≠ 0) ∨ (r.1 = 1 ∧ n_x r.2 = n_x M ∧ ∀ p, n_l M t + n_o M + 1 + c ≤ p → p ≤ n_s M → p_J t a 0 c (n_at r.2 p)))) := by
  have H := J.1.1.1.1
  have x1 := n_x1 H
  rw [R_opens H h]
  by_cases e : M.2.1 175 13 = 10
  · rw [if_pos e]
    exact Ok_s ⟨⟨(n_f_set H).1, p_F_f H (by decide)⟩, Or.inl ⟨rfl, n_f9 x1.1 (by omega) (by decide)⟩⟩
  · rw [if_neg e]
    obtain ⟨H1, f1⟩ := y_set (M' := mI M 175 13 (M.2.1 175 13 + (1 : Int32))) (S := 2 ^ 13) H (i := 175) (k := 13) (by decide) rfl rfl y_mI1 (fun j a hj => y_mI2 hj) rfl (y_full rfl) (by decide)
    generalize mI M 175 13 (M.2.1 175 13 + (1 : Int32)) = M1 at H1 f1 ⊢
    have o1 := n_fo f1 (by decide)
    have l1 := n_fl (t := t) f1 (by decide)
    have xx := n_fx f1 (by decide)
    have ss := n_fs f1 (by decide)
    have s1 := n_s1 H
    obtain ⟨H2, f2⟩ := n_op_set (w := w) H1 (by omega)
    have o2 := n_op_o (M := M1) (w := w) (by omega)
    have x2 := n_fx f2 (by decide)
    have l2 := n_fl (t := t) f2 (by decide)
    have s2 := n_fs f2 (by decide)
    refine Ok_s ⟨⟨H2, p_F_tr (p_F_of f1 (by decide) (by decide) (by decide)) (p_F_of f2 (by decide) (by decide) (by decide))⟩, Or.inr ⟨rfl, by show n_x (n_op M1 w) = n_x M; omega, fun p hp hp2 => ?_⟩⟩
    have w1 : n_w2 M1 = n_w2 M := funext (fun q => y_fa (i := 182) f1 (by decide) (by decide) q)
    have J1 : p_J t a 0 0 (n_at M1 p) := by
      refine p_J_at (c := c) (p_J_of (c2 := c) J.2 f1 (by decide) (p_I_of J.1 H1 f1 (by decide) ⟨by rw [xx]; omega, by rw [xx]; exact J.1.2.1.2⟩ (by rw [n_fm f1 (by decide)]; exact Nat.le_refl _))) (by omega) (by omega)
    have e9 : n_at (n_op M1 w) p = n_op (n_at M1 p) w := by
      unfold n_op
      rw [n_at_o]
      unfold n_at mI
      refine congrArg (fun f => (M1.1, f, M1.2.2.1, M1.2.2.2)) ?_
      funext i k
      unfold g_up
      by_cases h1 : i = 175
      · subst h1
        by_cases h2 : k = 8
        · subst h2
          simp
        · simp [h2]
      · by_cases h3 : i = 182
        · subst h3
          simp
        · simp [h1, h3]
    rw [e9]
    have J2 := (p_J_op (S := p_T) (c := 0) (e2 := 0) (w := w) J1 (by rw [n_at_o]; omega) (by rcases hw with e | e <;> subst e <;> decide) (by rcases hw with e | e <;> subst e <;> rfl) (by rw [n_at_l, n_at_o, n_at_x (by omega)]; omega) (by decide)).1
    have o4 : n_o (n_op (n_at M1 p) w) = n_o M + 1 := by
      rw [n_op_o (by rw [n_at_o]; omega), n_at_o, o1]
    obtain ⟨q1, q2⟩ := J2
    rw [o4] at q1 q2
    refine ⟨?_, by rw [o4]; exact q2⟩
    rw [o4]
    refine p_I_of q1 q1.1.1.1 (y_rf0 0 _) (by decide) ⟨?_, q1.2.1.2⟩ (Nat.le_refl _)
    have q3 := (n_op_set (M := n_at M1 p) (w := w) (n_atH H1 (by omega)) (by rw [n_at_o]; omega)).2
    rw [n_fl (t := t) q3 (by decide), n_fx q3 (by decide), n_at_l, n_at_x (by omega)]
    omega
/-- compare, in a TEST -/
theorem P_compareJ {t a c : Nat} {M : gM} (J : p_J t a 0 c M) : Ok (F_X12_compare (some 175) M) (p_Q p_T t a 1 c M) := by
  refine Ok_w (P_compare J.1) (fun r z => ?_)
  refine ⟨⟨z.1.1, p_F_fl (by decide) z.1.2⟩, z.2.imp id (fun w => ⟨w.1, ?_, w.2.2⟩)⟩
  exact p_J_of (e := 1) J.2 z.1.2.1 (by decide) w.2.1
theorem P_fact_L2 {t a c : Nat} : ∀ (n : Nat) {l1 : Int32} {M : gM}, p_J t a 0 c M → (n_s M - n_x M + (if l1 = 0 then 0 else 1) < n) → Ok (F_X12_fact_L2 n (some 175) l1 M) (p_Q p_T t a 1 c M) := by
  intro n
  induction n with
  | zero => intro l1 M J h; omega
  | succ n ih =>
    intro l1 M J h
    show Ok (F_X12_fact_b2 (F_X12_fact_L2 n) (some 175) l1 M) _
    have H := J.1.1.1.1
    delta F_X12_fact_b2 F_X12_fact_b72
    by_cases c1 : l1 = 0
    · rw [if_pos c1, e_gO H, Option.bind_some]
      refine Ok_b (P_compareJ J) (fun y z => ?_)
      obtain ⟨v2, M3⟩ := y
      refine Ok_t ?_ (Ok_s z)
      rcases z.2 with w | w
      · exact Or.inl w.1
      · exact Or.inr w.1
    rw [if_neg c1] at h
    have hx := J.1.2.1
    have s1 := n_s1 H
    obtain ⟨p, hp⟩ : ∃ p, p = n_sk M (n_x M) := ⟨_, rfl⟩
    have k1 := n_sk_le hx.2
    rw [← hp] at k1
    have J1 : p_J t a 0 c (n_at M p) := p_J_at J (by omega) (by omega)
    have F1 : p_F p_T t M (n_at M p) := p_F_at H (by omega) (by decide)
    have H1 := J1.1.1.1.1
    have x1 : n_x (n_at M p) = p := n_at_x (by omega)
    have s2 : n_s (n_at M p) = n_s M := n_at_s
    have l2 : n_l (n_at M p) t = n_l M t := n_at_l
    have o2 : n_o (n_at M p) = n_o M := n_at_o
    rw [if_neg c1, e_gO H, Option.bind_some, R_see H hx.2, ← hp, Option.bind_some]
    dsimp only
    rw [e_gC H1, Option.bind_some, R_isW2 H hx.2 hp, Option.bind_some]
    dsimp only
    by_cases cw : n_w M p 7237492 = true
    · have hle := n_w_le cw
      have e2 := (n_le_le (M := M) (p := p) (by omega)).2
      rw [if_pos cw, if_neg (by decide), e_gC H1, Option.bind_some]
      refine Ok_b (P_opens (Or.inr rfl) J1 (by omega) (by omega)) (fun y z => ?_)
      obtain ⟨v, M2⟩ := y
      obtain ⟨⟨H2, F2⟩, ⟨h5, g5⟩ | ⟨h5, x5, w5⟩⟩ := z
      · dsimp only at h5 g5 H2 F2 ⊢
        subst h5
        rw [if_pos rfl]
        exact p_Q0 H2 (p_F_tr F1 F2) g5
      · dsimp only at h5 x5 w5 H2 F2 ⊢
        subst h5
        have s3 := n_Fs F2 (by decide)
        have l3 : n_le M2 p = n_le M p := (congrFun (n_fle F2.1 (by decide) (by decide)) p).trans n_at_le
        rw [if_neg (by decide), e_gC H2, Option.bind_some, R_passWord H2 (by omega), Option.bind_some, x5, x1, l3]
        have J5 := w5 (n_le M p) (by omega) (by omega)
        have F5 : p_F p_T t M2 (n_at M2 (n_le M p)) := p_F_at H2 (by omega) (by decide)
        refine p_Qw (p_F_tr F1 (p_F_tr F2 F5)) (by rw [n_at_x (by omega)]; omega) (ih J5 ?_) (by decide)
        rw [n_at_x (by omega), n_at_s, if_neg (by decide)]
        omega
    · rw [if_neg cw, if_pos rfl]
      refine Ok_i (fun e91 => ?_) (fun e91 => ?_)
      · have hlt := n_c_lt e91 (by decide)
        rw [e_gC H1, Option.bind_some]
        refine Ok_b (P_opens (Or.inl rfl) J1 (by omega) (by omega)) (fun y z => ?_)
        obtain ⟨v, M2⟩ := y
        obtain ⟨⟨H2, F2⟩, ⟨h5, g5⟩ | ⟨h5, x5, w5⟩⟩ := z
        · dsimp only at h5 g5 H2 F2 ⊢
          subst h5
          rw [if_pos rfl]
          exact p_Q0 H2 (p_F_tr F1 F2) g5
        · dsimp only at h5 x5 w5 H2 F2 ⊢
          subst h5
          have s3 := n_Fs F2 (by decide)
          rw [if_neg (by decide), e_gI H2, Option.bind_some, e_pI H2, Option.bind_some, n_next H2, x5, x1]
          have J5 := w5 (p + 1) (by omega) (by omega)
          have F5 : p_F p_T t M2 (n_at M2 (p + 1)) := p_F_at H2 (by omega) (by decide)
          refine p_Qw (p_F_tr F1 (p_F_tr F2 F5)) (by rw [n_at_x (by omega)]; omega) (ih J5 ?_) (by decide)
          rw [n_at_x (by omega), n_at_s, if_neg (by decide)]
          omega
      · refine p_Qw F1 (by omega) (ih J1 ?_) (by decide)
        rw [if_pos rfl]
        omega
theorem P_fact {t a c : Nat} {M : gM} (J : p_J t a 0 c M) : Ok (F_X12_fact (some 175) M) (p_Q p_T t a 1 c M) := by
  have s1 := n_s1 J.1.1.1.1
  delta F_X12_fact F_X12_fact_b0
  refine P_fact_L2 _ J ?_
  rw [if_neg (by decide)]
  have : g_fuel = 1000000000 := rfl
  omega
-- 55.test2
/-! settles, closes, tested -/
theorem n_st_r {s : Int32} : n_st s = 0 ∨ s = 11 ∨ s = 12 ∨ s = 13 := by
  unfold n_st
  by_cases h1 : s = 13
  · exact Or.inr (Or.inr (Or.inr h1))
  · rw [if_neg h1]
    by_cases h2 : s = 12
    · exact Or.inr (Or.inr (Or.inl h2))
    · rw [if_neg h2]
      by_cases h3 : s = 11
      · exact Or.inr (Or.inl h3)
      · rw [if_neg h3]
        exact Or.inl rfl
/-- settles and what it leaves: no sign of the strength on top -/
def p_Se (t a c : Nat) (least : Int32) (M : gM) : gM → Prop := fun M' => (y_HT M' ∧ p_F p_T t M M') ∧ p_J t a 1 c M' ∧ (n_x M' = n_x M ∧ n_w2 M' = n_w2 M) ∧ (n_o M' ≤ n_o M ∧ ∀ k, k < n_o M → n_w2 M k = 91 → k < n_o M') ∧ (n_o M' = 0 ∨ n_st (n_w2 M (n_o M' - 1)) < least)
theorem P_settles_L0 {t a c : Nat} {least : Int32} (hl : 1 ≤ least.toInt) : ∀ (n : Nat) {M : gM}, p_J t a 1 c M → n_o M < n → Ok (F_X12_settles_L0 n (some 175) least M) (p_Se t a c least M) := by
  intro n
  induction n with
  | zero => intro M J h; omega
  | succ n ih =>
    intro M J h
    show Ok (F_X12_settles_b0 (F_X12_settles_L0 n) (some 175) least M) _
    have H := J.1.1.1.1
    have o1 := n_o1 H
    have z0 : (0 : Int32).toInt = 0 := rfl
    have z1 : (1 : Int32).toInt = 1 := rfl
    delta F_X12_settles_b0
    rw [e_gI H, Option.bind_some]
    by_cases c0 : M.2.1 175 16 ≤ 0
    · have := i_le c0
      rw [if_pos c0]
      exact Ok_s ⟨⟨H, p_F_rf⟩, J, ⟨rfl, rfl⟩, ⟨Nat.le_refl _, fun k hk _ => hk⟩, Or.inl (by omega)⟩
    have h0 := i_nle c0
    obtain ⟨m, hm⟩ : ∃ m, n_o M = m + 1 := ⟨n_o M - 1, by omega⟩
    have am := i_subc (x := M.2.1 175 16) (c := (1 : Int32)) z1 (by omega) (by omega)
    have cm : (M.2.1 175 16 - (1 : Int32)).toInt = (m : Int) := by omega
    have em : M.2.1 175 16 - (1 : Int32) = Int32.ofNat m := i_of cm (by omega)
    rw [if_neg c0, e_gR H (w := 182) rfl (by decide), Option.bind_some, Option.bind_some, e_aI H (t := 20) (i := 182) (n := 400) rfl (by decide) (by omega) (by omega), Option.bind_some, R_strength, Option.bind_some, i_cl cm]
    by_cases cs : n_st (M.2.1 182 m) < least
    · rw [if_pos cs]
      exact Ok_s ⟨⟨H, p_F_rf⟩, J, ⟨rfl, rfl⟩, ⟨Nat.le_refl _, fun k hk _ => hk⟩, Or.inr (by rw [hm]; exact cs)⟩
    have hs := i_nlt cs
    -- the sign on top
    obtain ⟨w, hw⟩ : ∃ w, w = M.2.1 182 m := ⟨_, rfl⟩
    have hw2 : w = 11 ∨ w = 12 ∨ w = 13 := by
      rcases n_st_r (s := M.2.1 182 m) with e | e | e | e
      · rw [e] at hs
        omega
      · exact Or.inl (hw.trans e)
      · exact Or.inr (Or.inl (hw.trans e))
      · exact Or.inr (Or.inr (hw.trans e))
    obtain ⟨M7, hM7⟩ : ∃ M7, M7 = mI M 175 16 (Int32.ofNat m) := ⟨_, rfl⟩
    have ci : (Int32.ofNat m).toInt = (m : Int) := i_ofNat (by omega)
    obtain ⟨H7, f7⟩ : y_HT M7 ∧ y_Fr (2 ^ 16) M M7 := by
      subst hM7
      refine y_set (M' := mI M 175 16 (Int32.ofNat m)) (S := 2 ^ 16) H (i := 175) (k := 16) (by decide) rfl rfl y_mI1 (fun j a hj => y_mI2 hj) rfl ?_ (by decide)
      show y_rg (0, 400) _
      unfold y_rg
      rw [ci]
      exact ⟨by omega, by show (m : Int) ≤ 400; omega⟩
    have v7 : M7.2.1 175 16 = Int32.ofNat m := by
      subst hM7
      exact y_mI1
    have o7 : n_o M7 = m := by
      show (M7.2.1 175 16).toInt.toNat = m
      rw [v7, ci]
      rfl
    have w7 : n_w2 M7 = n_w2 M := funext (fun q => y_fa (i := 182) f7 (by decide) (by decide) q)
    have x7 := n_fx f7 (by decide)
    have l7 := n_fl (t := t) f7 (by decide)
    obtain ⟨JI, JW⟩ := J
    have hnb : p_nb (n_w2 M) (n_o M) = p_nb (n_w2 M) m + (if w = 12 ∨ w = 13 then 1 else 0) := by
      rw [hm, hw]
      rfl
    rw [hm] at JW
    have I7 : p_I t a (p_nb (n_w2 M) (n_o M) + 1) (n_o M + c) M7 := p_I_of JI H7 f7 (by decide) ⟨by rw [x7]; exact JI.2.1.1, by rw [x7]; exact JI.2.1.2⟩ (by rw [n_fm f7 (by decide)]; exact Nat.le_refl _)
    have e182 : M7.2.1 182 m = w := by
      rw [hw]
      exact congrFun w7 _
    have hx := I7.2.1
    have s7 := n_s1 H7
    rw [if_neg cs, Option.bind_some, e_pI H, Option.bind_some, em, ← hM7]
    rw [e_gR H7 (w := 182) rfl (by decide), Option.bind_some, e_gI H7, Option.bind_some, v7, e_aI H7 (t := 20) (i := 182) (n := 400) rfl (by decide) (by omega) (by omega), Option.bind_some, i_cl ci, e182, e_gO H7, Option.bind_some, R_puts H7 I7.1.1.2 I7.1.2 (by omega), Option.bind_some]
    have hst : y_st (w + (16 : Int32) * (0 : Int32)) (p_nb (n_w2 M) (n_o M) + 1) = some (p_nb (n_w2 M) m + 1) := by
      rw [hnb]
      rcases hw2 with e | e | e
      · rw [e, if_neg (by decide)]
        exact y_st11
      · rw [e, if_pos (by decide)]
        exact y_stB (w := 12) (by decide)
      · rw [e, if_pos (by decide)]
        exact y_stB (w := 13) (by decide)
    obtain ⟨I8, F8, x8⟩ := p_puts (S := p_T) (c := m + c) (p_I_of (c2 := m + c + 1) I7 H7 (y_rf0 0 _) (by decide) ⟨by omega, hx.2⟩ (Nat.le_refl _)) hst (by have := I7.2.2.2; omega) (by decide)
    have o8 : n_o (n_p M7 t (w + (16 : Int32) * (0 : Int32))) = m := by
      show ((n_p M7 t (w + (16 : Int32) * (0 : Int32))).2.1 175 16).toInt.toNat = m
      unfold n_p
      rw [mI_ne (Or.inl (by decide)), mI_ne (Or.inl (by decide)), v7, ci]
      rfl
    have w8 : n_w2 (n_p M7 t (w + (16 : Int32) * (0 : Int32))) = n_w2 M := by
      refine Eq.trans (funext (fun q => ?_)) w7
      show (n_p M7 t (w + (16 : Int32) * (0 : Int32))).2.1 182 q = M7.2.1 182 q
      unfold n_p
      rw [mI_ne (Or.inl (by decide)), mI_ne (Or.inl (by decide))]
    generalize n_p M7 t (w + (16 : Int32) * (0 : Int32)) = M8 at I8 F8 x8 o8 w8 ⊢
    have J8 : p_J t a 1 c M8 := by
      unfold p_J
      rw [o8, w8]
      exact ⟨I8, fun k hk => JW k (by omega)⟩
    have H8 := I8.1.1.1
    have F7 : p_F p_T t M M8 := p_F_tr (p_F_of f7 (by decide) (by decide) (by decide)) F8
    have v8 : M8.2.1 175 16 = Int32.ofNat m := i_of (by rw [(n_o1 H8).1, o8]) (by omega)
    have e8 : M8.2.1 182 m = w := (congrFun w8 m).trans hw.symm
    -- the rest, from a memory that differs in deep alone
    have rest : ∀ {M9 : gM}, y_HT M9 → y_Fr (2 ^ 13) M8 M9 → Ok (F_X12_settles_L0 n (some 175) least M9) (p_Se t a c least M) := by
      intro M9 H9 f9
      have x9 := n_fx f9 (by decide)
      have o9 := n_fo f9 (by decide)
      have w9 : n_w2 M9 = n_w2 M8 := funext (fun q => y_fa (i := 182) f9 (by decide) (by decide) q)
      have J9 : p_J t a 1 c M9 := p_J_of J8.2 f9 (by decide) (p_I_of J8.1 H9 f9 (by decide) ⟨by rw [x9]; exact J8.1.2.1.1, by rw [x9]; exact J8.1.2.1.2⟩ (by rw [n_fm f9 (by decide)]; exact Nat.le_refl _))
      refine Ok_w (ih J9 (by omega)) (fun r z => ?_)
      obtain ⟨⟨q1, q2⟩, q3, ⟨q4, q5⟩, ⟨q6, q7⟩, q8⟩ := z
      refine ⟨⟨q1, p_F_tr F7 (p_F_tr (p_F_of f9 (by decide) (by decide) (by decide)) q2)⟩, q3, ⟨by omega, by rw [q5, w9, w8]⟩, ⟨by omega, fun k hk hk2 => ?_⟩, ?_⟩
      · refine q7 k ?_ (by rw [w9, w8]; exact hk2)
        rw [o9, o8]
        rcases Nat.lt_or_ge k m with h1 | h1
        · exact h1
        · exfalso
          have : k = m := by omega
          subst this
          have e : w = 91 := hw.trans hk2
          rcases hw2 with e2 | e2 | e2 <;> (rw [e2] at e; exact absurd e (by decide))
      · rw [w9, w8] at q8
        exact q8
    rw [e_gR H8 (w := 182) rfl (by decide), Option.bind_some, e_gI H8, Option.bind_some, v8, e_aI H8 (t := 20) (i := 182) (n := 400) rfl (by decide) (by omega) (by omega), Option.bind_some, i_cl ci, e8]
    by_cases c11 : w = 11
    · rw [if_pos c11, e_gI H8, Option.bind_some, e_pI H8, Option.bind_some]
      obtain ⟨H9, f9⟩ := y_set (M' := mI M8 175 13 (M8.2.1 175 13 - (1 : Int32))) (S := 2 ^ 13) H8 (i := 175) (k := 13) (by decide) rfl rfl y_mI1 (fun j a hj => y_mI2 hj) rfl (y_full rfl) (by decide)
      exact rest H9 f9
    · rw [if_neg c11]
      exact rest H8 (y_rf0 _ _)
theorem P_settles {t a c : Nat} {least : Int32} {M : gM} (hl : 1 ≤ least.toInt) (J : p_J t a 1 c M) : Ok (F_X12_settles (some 175) least M) (p_Se t a c least M) := P_settles_L0 hl _ J (n_fu (n_o1 J.1.1.1.1).2)
/-- whether a bracket waits -/
theorem R_isInside_L2 {M : gM} (H : y_HT M) : ∀ (n k : Nat) {l1 : Int32}, l1.toInt = (k : Int) → k ≤ n_o M → (∀ j, j < k → n_w2 M j ≠ 91) → n_o M - k < n → Ok (F_X12_isInside_L2 M n (some 175) l1) (fun r => (r = 0 ∧ ∀ j, j < n_o M → n_w2 M j ≠ 91) ∨ (r = 1 ∧ ∃ j, j < n_o M ∧ n_w2 M j = 91)) := by
  intro n
  induction n with
  | zero => intro k l1 h1 h2 h3 h4; omega
  | succ n ih =>
    intro k l1 h1 h2 h3 h4
    show Ok (F_X12_isInside_b2 (F_X12_isInside_L2 M n) M (some 175) l1) _
    have o1 := n_o1 H
    delta F_X12_isInside_b2
    rw [e_gI H, Option.bind_some]
    refine Ok_i (fun c => ?_) (fun c => ?_)
    · have := i_le c
      exact Ok_s (Or.inl ⟨rfl, fun j hj => h3 j (by omega)⟩)
    · have hc := i_nle c
      rw [e_gR H (w := 182) rfl (by decide), Option.bind_some, e_aI H (t := 20) (i := 182) (n := 400) rfl (by decide) (by omega) (by omega), Option.bind_some, i_cl h1]
      refine Ok_i (fun e => ?_) (fun e => ?_)
      · exact Ok_s (Or.inr ⟨rfl, k, by omega, e⟩)
      · refine ih (k + 1) ?_ (by omega) (fun j hj => ?_) (by omega)
        · rw [n_inc h1 (by omega), i_ofNat (by omega)]
        · rcases Nat.lt_or_ge j k with h5 | h5
          · exact h3 j h5
          · have : j = k := by omega
            subst this
            exact e
theorem R_isInside {M : gM} (H : y_HT M) : Ok (F_X12_isInside (some 175) M) (fun r => (r = 0 ∧ ∀ j, j < n_o M → n_w2 M j ≠ 91) ∨ (r = 1 ∧ ∃ j, j < n_o M ∧ n_w2 M j = 91)) := by
  delta F_X12_isInside F_X12_isInside_b0
  exact R_isInside_L2 H _ 0 rfl (Nat.zero_le _) (fun j hj => absurd hj (Nat.not_lt_zero _)) (n_fu (by have := (n_o1 H).2; omega))
-- 56.closes
/-! closes and tested -/
theorem p_J_less {t a e c c2 : Nat} {M : gM} (J : p_J t a e c M) (h : c2 ≤ c) : p_J t a e c2 M := ⟨p_I_of J.1 J.1.1.1.1 (y_rf0 0 _) (by decide) ⟨by have := J.1.2.1; omega, J.1.2.1.2⟩ (Nat.le_refl _), J.2⟩
theorem n_st_91 {s : Int32} (h : n_st s < 1) (hw : s = 91 ∨ s = 11 ∨ s = 12 ∨ s = 13) : s = 91 := by
  rcases hw with e | e | e | e
  · exact e
  · rw [e] at h
    exact absurd h (by decide)
  · rw [e] at h
    exact absurd h (by decide)
  · rw [e] at h
    exact absurd h (by decide)
def p_Cl (t a c : Nat) (M : gM) : gM → Prop := fun M' => (y_HT M' ∧ p_F p_T t M M') ∧ p_J t a 1 c M' ∧ n_x M ≤ n_x M'
theorem p_J_deep {t a e c : Nat} {v : Int32} {M : gM} (J : p_J t a e c M) : p_J t a e c (mI M 175 13 v) ∧ p_F p_T t M (mI M 175 13 v) ∧ n_x (mI M 175 13 v) = n_x M ∧ n_s (mI M 175 13 v) = n_s M ∧ n_w2 (mI M 175 13 v) = n_w2 M ∧ n_o (mI M 175 13 v) = n_o M := by
  obtain ⟨H9, f9⟩ := y_set (M' := mI M 175 13 v) (S := 2 ^ 13) J.1.1.1.1 (i := 175) (k := 13) (by decide) rfl rfl y_mI1 (fun j a hj => y_mI2 hj) rfl (y_full rfl) (by decide)
  have x9 := n_fx f9 (by decide)
  have s9 := n_fs f9 (by decide)
  refine ⟨p_J_of J.2 f9 (by decide) (p_I_of J.1 H9 f9 (by decide) ⟨by rw [x9]; exact J.1.2.1.1, by rw [x9]; exact J.1.2.1.2⟩ (by rw [n_fm f9 (by decide)]; exact Nat.le_refl _)), p_F_of f9 (by decide) (by decide) (by decide), x9, s9, funext (fun q => y_fa (i := 182) f9 (by decide) (by decide) q), n_fo f9 (by decide)⟩
/-- the sign on top waits no more: it was a bracket -/
theorem p_J_pop {t a c m : Nat} {M : gM} (J : p_J t a 1 c M) (ho : n_o M = m + 1) (hw : n_w2 M m = 91) : p_J t a 1 c (mI M 175 16 (Int32.ofNat m)) ∧ p_F p_T t M (mI M 175 16 (Int32.ofNat m)) ∧ n_x (mI M 175 16 (Int32.ofNat m)) = n_x M ∧ n_s (mI M 175 16 (Int32.ofNat m)) = n_s M := by
  obtain ⟨JI, JW⟩ := J
  have H := JI.1.1.1
  have o1 := n_o1 H
  have ci : (Int32.ofNat m).toInt = (m : Int) := i_ofNat (by omega)
  obtain ⟨H7, f7⟩ : y_HT (mI M 175 16 (Int32.ofNat m)) ∧ y_Fr (2 ^ 16) M (mI M 175 16 (Int32.ofNat m)) := by
    refine y_set (M' := mI M 175 16 (Int32.ofNat m)) (S := 2 ^ 16) H (i := 175) (k := 16) (by decide) rfl rfl y_mI1 (fun j a hj => y_mI2 hj) rfl ?_ (by decide)
    show y_rg (0, 400) _
    unfold y_rg
    rw [ci]
    exact ⟨by omega, by show (m : Int) ≤ 400; omega⟩
  have o7 : n_o (mI M 175 16 (Int32.ofNat m)) = m := by
    show ((mI M 175 16 (Int32.ofNat m)).2.1 175 16).toInt.toNat = m
    rw [y_mI1, ci]
    rfl
  have w7 : n_w2 (mI M 175 16 (Int32.ofNat m)) = n_w2 M := funext (fun q => y_fa (i := 182) f7 (by decide) (by decide) q)
  have x7 := n_fx f7 (by decide)
  have hnb : p_nb (n_w2 M) (n_o M) = p_nb (n_w2 M) m := by
    rw [ho]
    show p_nb (n_w2 M) m + (if n_w2 M m = 12 ∨ n_w2 M m = 13 then 1 else 0) = _
    rw [hw, if_neg (by decide), Nat.add_zero]
  have hx := JI.2.1
  refine ⟨⟨?_, ?_⟩, p_F_of f7 (by decide) (by decide) (by decide), x7, n_fs f7 (by decide)⟩
  · rw [o7, w7, ← hnb]
    exact p_I_of JI H7 f7 (by decide) ⟨by rw [x7]; omega, by rw [x7]; exact hx.2⟩ (by rw [n_fm f7 (by decide)]; exact Nat.le_refl _)
  · rw [o7, w7]
    intro k hk
    exact JW k (by omega)
theorem P_closes_L5 {t a c : Nat} : ∀ (n : Nat) {M : gM}, p_J t a 1 c M → n_s M - n_x M < n → Ok (F_X12_closes_L5 n (some 175) M) (p_Cl t a c M) := by
  intro n
  induction n with
  | zero => intro M J h; omega
  | succ n ih =>
    intro M J h
    show Ok (F_X12_closes_b5 (F_X12_closes_L5 n) (some 175) M) _
    have H := J.1.1.1.1
    have hx := J.1.2.1
    have s1 := n_s1 H
    obtain ⟨p, hp⟩ : ∃ p, p = n_sk M (n_x M) := ⟨_, rfl⟩
    have k1 := n_sk_le hx.2
    rw [← hp] at k1
    have J1 : p_J t a 1 c (n_at M p) := p_J_at J (by omega) (by omega)
    have F1 : p_F p_T t M (n_at M p) := p_F_at H (by omega) (by decide)
    have H1 := J1.1.1.1.1
    have x1 : n_x (n_at M p) = p := n_at_x (by omega)
    have s2 : n_s (n_at M p) = n_s M := n_at_s
    delta F_X12_closes_b5
    rw [e_gO H, Option.bind_some, R_see H hx.2, ← hp, Option.bind_some]
    dsimp only
    refine Ok_i (fun e => ?_) (fun e => ?_)
    · have hlt := n_c_lt e (by decide)
      generalize n_at M p = M3 at J1 F1 H1 x1 s2 ⊢
      rw [e_gC H1, Option.bind_some]
      refine Ok_b (R_isInside H1) (fun v5 z => ?_)
      rcases z with ⟨z, z2⟩ | ⟨z, j, hj, z2⟩
      · subst z
        rw [if_pos rfl]
        exact Ok_s ⟨⟨H1, F1⟩, J1, by omega⟩
      · subst z
        rw [if_neg (by decide)]
        refine Ok_b (P_settles (least := 1) (by decide) J1) (fun M6 q => ?_)
        obtain ⟨⟨H6, F6⟩, J6, ⟨x6, w6⟩, ⟨o6, b6⟩, t6⟩ := q
        have hj6 := b6 j hj z2
        obtain ⟨m, hm⟩ : ∃ m, n_o M6 = m + 1 := ⟨n_o M6 - 1, by omega⟩
        have top : n_w2 M6 m = 91 := by
          refine n_st_91 ?_ (J6.2 m (by omega))
          rw [w6]
          rcases t6 with t6 | t6
          · omega
          · rw [hm] at t6
            exact t6
        have o16 := n_o1 H6
        have em : M6.2.1 175 16 - (1 : Int32) = Int32.ofNat m := i_of (by rw [i_subc (n := 1) rfl (by omega) (by omega)]; omega) (by omega)
        rw [e_gI H6, Option.bind_some, e_pI H6, Option.bind_some, em]
        obtain ⟨J8, F8, x8, s8⟩ := p_J_pop J6 hm top
        generalize mI M6 175 16 (Int32.ofNat m) = M8 at J8 F8 x8 s8 ⊢
        have H8 := J8.1.1.1.1
        rw [e_gI H8, Option.bind_some, e_pI H8, Option.bind_some]
        obtain ⟨J10, F10, x10, s10, -, -⟩ := p_J_deep (v := M8.2.1 175 13 - (1 : Int32)) J8
        generalize mI M8 175 13 (M8.2.1 175 13 - (1 : Int32)) = M10 at J10 F10 x10 s10 ⊢
        have H10 := J10.1.1.1.1
        have s6 := n_Fs F6 (by decide)
        have h10 := J10.1.2.1
        rw [e_gI H10, Option.bind_some, e_pI H10, Option.bind_some, n_next H10]
        have J12 : p_J t a 1 c (n_at M10 (n_x M10 + 1)) := p_J_at J10 (by omega) (by omega)
        have F12 : p_F p_T t M10 (n_at M10 (n_x M10 + 1)) := p_F_at H10 (by omega) (by decide)
        have x12 : n_x (n_at M10 (n_x M10 + 1)) = n_x M10 + 1 := n_at_x (by omega)
        have s12 : n_s (n_at M10 (n_x M10 + 1)) = n_s M10 := n_at_s
        generalize n_at M10 (n_x M10 + 1) = M12 at J12 F12 x12 s12 ⊢
        have H12 := J12.1.1.1.1
        rw [e_gC H12, Option.bind_some]
        refine Ok_b (P_settles (least := 3) (by decide) J12) (fun M14 q => ?_)
        obtain ⟨⟨H14, F14⟩, J14, ⟨x14, w14⟩, -, -⟩ := q
        have s14 := n_Fs F14 (by decide)
        refine Ok_w (ih J14 (by omega)) (fun M' q => ?_)
        exact ⟨⟨q.1.1, p_F_tr F1 (p_F_tr F6 (p_F_tr F8 (p_F_tr F10 (p_F_tr F12 (p_F_tr F14 q.1.2)))))⟩, q.2.1, by have := q.2.2; omega⟩
    · exact Ok_s ⟨⟨H1, F1⟩, J1, by omega⟩
theorem P_closes {t a c : Nat} {M : gM} (J : p_J t a 1 c M) : Ok (F_X12_closes (some 175) M) (p_Cl t a c M) := by
  have H := J.1.1.1.1
  delta F_X12_closes F_X12_closes_b0
  rw [e_gO H, Option.bind_some]
  refine Ok_b (P_settles (least := 3) (by decide) J) (fun M2 q => ?_)
  obtain ⟨⟨H2, F2⟩, J2, ⟨x2, w2⟩, -, -⟩ := q
  have s2 := n_s1 H2
  refine Ok_w (P_closes_L5 _ J2 (n_fu (by omega))) (fun M' q => ?_)
  exact ⟨⟨q.1.1, p_F_tr F2 q.1.2⟩, q.2.1, by have := q.2.2; omega⟩
/-- and, or: it waits, what binds as strongly is settled -/
theorem P_tested_b76 {t a c p : Nat} {l1 s : Int32} {M : gM} {k : Option Nat → Int32 → gM → Option (Int32 × gM)} (hs : s = 12 ∨ s = 13) (hp : p = n_x M) (hle : p < n_le M p)
    (hk : ∀ {M1 : gM}, p_J t a 0 c M1 → p < n_x M1 → n_s M1 = n_s M → Ok (k (some 175) l1 M1) (p_P p_T t a 1 c M1)) (J : p_J t a 1 c M) : Ok (F_X12_tested_b76 k (some 175) l1 s M) (p_P p_T t a 1 c M) := by
  have H := J.1.1.1.1
  have hx := J.1.2.1
  have s1 := n_s1 H
  have e2 := (n_le_le (M := M) (p := p) (by omega)).2
  delta F_X12_tested_b76
  rw [e_gO H, Option.bind_some, R_passWord H hx.2, Option.bind_some, ← hp]
  have J2 : p_J t a 1 (c + 1) (n_at M (n_le M p)) := p_J_at J (by omega) e2
  have F2 : p_F p_T t M (n_at M (n_le M p)) := p_F_at H (by omega) (by decide)
  have x2 : n_x (n_at M (n_le M p)) = n_le M p := n_at_x (by omega)
  have s2 : n_s (n_at M (n_le M p)) = n_s M := n_at_s
  generalize n_at M (n_le M p) = M2 at J2 F2 x2 s2 ⊢
  have H2 := J2.1.1.1.1
  have hst : 1 ≤ (n_st s).toInt := by rcases hs with e | e <;> rw [e] <;> decide
  rw [R_strength, Option.bind_some, e_gC H2, Option.bind_some]
  refine Ok_b (P_settles hst J2) (fun M5 q => ?_)
  obtain ⟨⟨H5, F5⟩, J5, ⟨x5, w5⟩, ⟨o5, -⟩, -⟩ := q
  have h5 := J5.1.2.1
  have s5 := n_s1 H5
  have o1 := n_o1 H5
  have ho : n_o M5 < 400 := by omega
  obtain ⟨J8, F8, x8⟩ := p_J_op (S := p_T) (w := s) (e := 1) (e2 := 0) (c := c) (p_J_less J5 (by omega)) ho (by rcases hs with h9 | h9 <;> rw [h9] <;> decide) (by rcases hs with h9 | h9 <;> subst h9 <;> rfl) (by omega) (by decide)
  have H8' : y_HT (mI M5 182 (n_o M5) s) := (y_set (M' := mI M5 182 (n_o M5) s) (S := 2 ^ 47) H5 (i := 182) (k := n_o M5) (by decide) rfl rfl y_mI1 (fun j a hj => y_mI2 hj) rfl (y_full rfl) (show Nat.testBit (2 ^ 47) 47 = true by decide)).1
  have o8' : (mI M5 182 (n_o M5) s).2.1 175 16 = M5.2.1 175 16 := mI_ne (Or.inl (by decide))
  rw [e_gR H5 (w := 182) rfl (by decide), Option.bind_some, e_gI H5, Option.bind_some, e_sI H5 (i := 182) (n := 400) rfl (by omega) (by omega), Option.bind_some, show (M5.2.1 175 16).toNatClampNeg = n_o M5 from rfl, e_gI H8', Option.bind_some, e_pI H8', Option.bind_some, o8', n_inc o1.1 (by omega)]
  have F := p_F_tr F2 (p_F_tr F5 F8)
  exact p_Pw F (by rw [x8]; omega) (hk J8 (by show p < n_x (n_op M5 s); rw [x8]; omega) (n_Fs F (by decide))) (by decide)
theorem P_tested_L12 {t a c : Nat} : ∀ (n : Nat) {l1 : Int32} {M : gM}, p_J t a (if l1 = 0 then 1 else 0) c M → (n_s M - n_x M + (if l1 = 0 then 0 else 1) < n) → Ok (F_X12_tested_L12 n (some 175) l1 M) (p_P p_T t a 1 c M) := by
  intro n
  induction n with
  | zero => intro l1 M J h; omega
  | succ n ih =>
    intro l1 M J h
    show Ok (F_X12_tested_b12 (F_X12_tested_L12 n) (some 175) l1 M) _
    have H := J.1.1.1.1
    delta F_X12_tested_b12
    by_cases c1 : l1 = 0
    · rw [if_pos c1] at J
      rw [if_pos c1, e_gO H, Option.bind_some]
      refine Ok_b (R_isInside H) (fun v2 z => ?_)
      rcases z with ⟨z, z2⟩ | ⟨z, z2⟩
      · subst z
        rw [if_pos rfl]
        refine Ok_b (P_settles (least := 1) (by decide) J) (fun M3 q => ?_)
        obtain ⟨⟨H3, F3⟩, J3, ⟨x3, w3⟩, ⟨o3, b3⟩, t3⟩ := q
        have o0 : n_o M3 = 0 := by
          rcases t3 with t3 | t3
          · exact t3
          · rcases Nat.eq_zero_or_pos (n_o M3) with e | e
            · exact e
            · exfalso
              have e91 := n_st_91 t3 (by rw [← w3]; exact J3.2 _ (by omega))
              exact z2 (n_o M3 - 1) (by omega) e91
        have I3 := J3.1
        rw [o0] at I3
        exact p_P1 (p_I_of I3 H3 (y_rf0 0 _) (by decide) ⟨by have := I3.2.1; omega, I3.2.1.2⟩ (Nat.le_refl _)) F3 (by omega)
      · subst z
        rw [if_neg (by decide)]
        have hx := J.1.2.1
        have s1 := n_s1 H
        have k1 := n_sk_le hx.2
        have H1 : y_HT (n_at M (n_sk M (n_x M))) := n_atH H (by omega)
        have xi : (Int32.ofNat (n_sk M (n_x M))).toInt = ((n_sk M (n_x M) : Nat) : Int) := i_ofNat (by omega)
        rw [R_see H hx.2, Option.bind_some]
        dsimp only
        rw [e_gI H1, Option.bind_some, n_at8, e_gC H1, Option.bind_some, R_fails H1, Option.bind_some]
        dsimp only
        rw [if_pos (Or.inl rfl)]
        exact p_Pf H1 (p_F_at H (by omega) (by decide)) (by decide) xi (by omega) (by decide)
    · rw [if_neg c1] at J h
      rw [if_neg c1, e_gO H, Option.bind_some]
      refine Ok_b (P_fact J) (fun y z => ?_)
      obtain ⟨v12, M13⟩ := y
      obtain ⟨⟨H13, F13⟩, ⟨h5, g5⟩ | ⟨h5, J13, x13⟩⟩ := z
      · dsimp only at h5 g5 H13 F13 ⊢
        subst h5
        rw [if_pos rfl]
        exact p_P0 H13 F13 g5
      dsimp only at h5 J13 x13 H13 F13 ⊢
      subst h5
      rw [if_neg (by decide), e_gC H13, Option.bind_some]
      refine Ok_b (P_closes J13) (fun M15 q => ?_)
      obtain ⟨⟨H15, F15⟩, J15, x15⟩ := q
      have F := p_F_tr F13 F15
      have sF := n_Fs F (by decide)
      have hx := J15.1.2.1
      have s1 := n_s1 H15
      obtain ⟨p, hp⟩ : ∃ p, p = n_sk M15 (n_x M15) := ⟨_, rfl⟩
      have k1 := n_sk_le hx.2
      rw [← hp] at k1
      have J1 : p_J t a 1 c (n_at M15 p) := p_J_at J15 (by omega) (by omega)
      have F1 : p_F p_T t M (n_at M15 p) := p_F_tr F (p_F_at H15 (by omega) (by decide))
      have H1 := J1.1.1.1.1
      have x1 : n_x (n_at M15 p) = p := n_at_x (by omega)
      have s2 : n_s (n_at M15 p) = n_s M15 := n_at_s
      have l1' : n_le (n_at M15 p) p = n_le M15 p := n_at_le
      rw [e_gC H15, Option.bind_some, R_isWord H15 hx.2, ← hp, Option.bind_some]
      dsimp only
      refine p_Pw F1 (by omega) (S1 := p_T) ?_ (by decide)
      have b76 : ∀ {s : Int32}, s = 12 ∨ s = 13 → p < n_le M15 p → Ok (F_X12_tested_b76 (F_X12_tested_L12 n) (some 175) 1 s (n_at M15 p)) (p_P p_T t a 1 c (n_at M15 p)) := by
        intro s hs hle
        refine P_tested_b76 (p := p) hs x1.symm (by rw [l1']; exact hle) (fun J9 a1 a2 => ih (l1 := 1) (by rw [if_neg (by decide)]; exact J9) ?_) J1
        have := J9.1.2.1.2
        rw [if_neg (by decide)]
        omega
      have b49 : (n_w M15 p 6385252 = true ∨ n_w M15 p 28530 = true) → Ok (F_X12_tested_b49 (F_X12_tested_L12 n) (some 175) (n_at M15 p)) (p_P p_T t a 1 c (n_at M15 p)) := by
        intro hw
        have hle : p < n_le M15 p := by rcases hw with e | e <;> exact n_w_le e
        delta F_X12_tested_b49 F_X12_tested_b54
        rw [if_neg (by decide), e_gO H1, Option.bind_some, R_isW2 H15 hx.2 hp, Option.bind_some]
        dsimp only
        refine Ok_i (fun _ => b76 (Or.inr rfl) hle) (fun _ => b76 (Or.inl rfl) hle)
      by_cases ca : n_w M15 p 6385252 = true
      · rw [if_pos ca, if_neg (by decide)]
        exact b49 (Or.inl ca)
      · rw [if_neg ca, if_pos rfl, e_gC H1, Option.bind_some, R_isW2 H15 hx.2 hp, Option.bind_some]
        dsimp only
        by_cases co : n_w M15 p 28530 = true
        · rw [if_pos co, if_neg (by decide)]
          exact b49 (Or.inr co)
        · rw [if_neg co, if_pos rfl]
          delta F_X12_tested_b54
          rw [if_pos rfl]
          refine ih (l1 := 0) (by rw [if_pos rfl]; exact J1) ?_
          rw [if_pos rfl]
          omega
theorem P_tested {t a c : Nat} {M : gM} (I : p_I t a 0 c M) : Ok (F_X12_tested (some 175) M) (p_P p_T t a 1 c M) := by
  have H := I.1.1.1
  delta F_X12_tested F_X12_tested_b0
  rw [e_pI H, Option.bind_some]
  obtain ⟨H1, f1⟩ := y_set (M' := mI M 175 16 (0 : Int32)) (S := 2 ^ 16) H (i := 175) (k := 16) (by decide) rfl rfl y_mI1 (fun j a hj => y_mI2 hj) rfl (y_in (lo := 0) (hi := 400) rfl (by decide)) (by decide)
  have o1 : n_o (mI M 175 16 (0 : Int32)) = 0 := by
    show ((mI M 175 16 (0 : Int32)).2.1 175 16).toInt.toNat = 0
    rw [y_mI1]
    rfl
  generalize mI M 175 16 (0 : Int32) = M1 at H1 f1 o1 ⊢
  have x1 := n_fx f1 (by decide)
  have J1 : p_J t a 0 c M1 := by
    unfold p_J
    rw [o1]
    exact ⟨p_I_of I H1 f1 (by decide) ⟨by rw [x1, Nat.zero_add]; exact I.2.1.1, by rw [x1]; exact I.2.1.2⟩ (by rw [n_fm f1 (by decide)]; exact Nat.le_refl _), fun k hk => absurd hk (Nat.not_lt_zero _)⟩
  rw [e_pI H1, Option.bind_some]
  obtain ⟨J2, F2, x2, s2, -, -⟩ := p_J_deep (v := (0 : Int32)) J1
  have s3 := n_s1 J2.1.1.1.1
  refine p_Pw (p_F_tr (p_F_of f1 (by decide) (by decide) (by decide)) F2) (by omega) (P_tested_L12 _ (l1 := 1) (by rw [if_neg (by decide)]; exact J2) ?_) (by decide)
  rw [if_neg (by decide)]
  have : g_fuel = 1000000000 := rfl
  omega
-- 57.fade
/-! a RULE is read -/
def n_cc (M : gM) (t : Nat) : Nat := (M.2.1 180 t).toInt.toNat
theorem n_cc1 {M : gM} (H : y_HT M) (t : Nat) : (M.2.1 180 t).toInt = (n_cc M t : Int) ∧ n_cc M t ≤ 12 := by
  have h := H.2.1 180 (by decide) t
  have h1 : 0 ≤ (M.2.1 180 t).toInt := h.1
  have h2 : (M.2.1 180 t).toInt ≤ 12 := h.2
  unfold n_cc
  omega
/-- a clause's steps stand, among those that are there -/
def p_cl (M : gM) (t q : Nat) : Prop := y_cl M t q ∧ (M.2.1 179 (q + 1)).toInt ≤ (n_l M t : Int) ∧ (0 ≤ (M.2.1 179 (q + 2)).toInt → (M.2.1 179 (q + 3)).toInt ≤ (n_l M t : Int))
theorem y_sg_c {f g : Nat → Int32} {x y : Int32} (h : y_sg f x y) (e : ∀ j : Nat, (j : Int) < y.toInt → g j = f j) : y_sg g x y := by
  refine ⟨h.1, ?_⟩
  have h1 := h.1
  rw [← h.2]
  exact y_evc (fun j a b => e j (by omega))
theorem p_cl_mo {M M' : gM} {t q : Nat} (C : p_cl M t q) (h1 : n_l M t ≤ n_l M' t) (h2 : ∀ j, j < 400 * t + n_l M t → M'.2.1 177 j = M.2.1 177 j) (h3 : ∀ j, j < 4 → M'.2.1 179 (q + j) = M.2.1 179 (q + j)) : p_cl M' t q := by
  have e0 : M'.2.1 179 q = M.2.1 179 q := h3 0 (by omega)
  have e1 := h3 1 (by omega)
  have e2 := h3 2 (by omega)
  have e3 := h3 3 (by omega)
  obtain ⟨⟨c1, c2⟩, c3, c4⟩ := C
  unfold p_cl y_cl
  rw [e0, e1, e2, e3]
  refine ⟨⟨y_sg_c c1 (fun j hj => h2 _ (by omega)), fun h => y_sg_c (c2 h) (fun j hj => h2 _ (by have := c4 h; omega))⟩, by omega, fun h => by have := c4 h; omega⟩
/-- c clauses of the rule t stand -/
def p_K (t c : Nat) (M : gM) : Prop := ((y_HT M ∧ t ≤ 5) ∧ (M.2.1 175 11).toInt = (t : Int)) ∧ (n_l M t ≤ n_x M ∧ n_x M ≤ n_s M) ∧ n_cc M t = c ∧ ∀ k, k < c → p_cl M t (48 * t + 4 * k)
abbrev p_A : Nat := 2 ^ 8 + 2 ^ 9 + 2 ^ 10 + 2 ^ 12 + 2 ^ 13 + 2 ^ 16 + 2 ^ 42 + 2 ^ 43 + 2 ^ 44 + 2 ^ 45 + 2 ^ 47
/-- what stands for rules ahead of t, stands -/
def p_G (S t : Nat) (M M' : gM) : Prop := y_Fr S M M' ∧ (∀ q, q < 400 * t → M'.2.1 177 q = M.2.1 177 q) ∧ (∀ q, q < 48 * t → M'.2.1 179 q = M.2.1 179 q) ∧ (∀ k, k ≠ t → M'.2.1 180 k = M.2.1 180 k)
theorem p_G_tr {S t : Nat} {M M1 M2 : gM} (h1 : p_G S t M M1) (h2 : p_G S t M1 M2) : p_G S t M M2 := ⟨y_tr h1.1 h2.1, fun q hq => (h2.2.1 q hq).trans (h1.2.1 q hq), fun q hq => (h2.2.2.1 q hq).trans (h1.2.2.1 q hq), fun q hq => (h2.2.2.2 q hq).trans (h1.2.2.2 q hq)⟩
theorem p_G_of {S S2 t : Nat} {M M' : gM} (f : y_Fr S M M') (h : Nat.land S S2 = S) (h2 : Nat.land S (2 ^ 42 + 2 ^ 44 + 2 ^ 45) = 0) : p_G S2 t M M' := ⟨y_fl h f, fun q _ => y_fa (i := 177) f (by decide) (y_dis h2 (by decide)) q, fun q _ => y_fa (i := 179) f (by decide) (y_dis h2 (by decide)) q, fun q _ => y_fa (i := 180) f (by decide) (y_dis h2 (by decide)) q⟩
theorem p_G_fl {S S2 t : Nat} {M M1 : gM} (h : Nat.land S S2 = S) (h1 : p_G S t M M1) : p_G S2 t M M1 := ⟨y_fl h h1.1, h1.2⟩
def p_R (S t c : Nat) (M : gM) : Int32 × gM → Prop := fun r => (y_HT r.2 ∧ p_G S t M r.2) ∧ ((r.1 = 0 ∧ r.2.2.1 175 9 ≠ 0) ∨ (r.1 = 1 ∧ p_K t c r.2 ∧ n_x M ≤ n_x r.2))
/-- while a clause is read: the places of its own four marks are ahead of all that changes -/
def p_D (t q : Nat) (M M' : gM) : Prop := p_F p_A t M M' ∧ (∀ j, j < q → M'.2.1 179 j = M.2.1 179 j) ∧ (∀ k, k ≠ t → M'.2.1 180 k = M.2.1 180 k)
theorem p_D_tr {t q : Nat} {M M1 M2 : gM} (h1 : p_D t q M M1) (h2 : p_D t q M1 M2) : p_D t q M M2 := ⟨p_F_tr h1.1 h2.1, fun j hj => (h2.2.1 j hj).trans (h1.2.1 j hj), fun k hk => (h2.2.2 k hk).trans (h1.2.2 k hk)⟩
theorem p_D_F {S t q : Nat} {M M' : gM} (f : p_F S t M M') (h : Nat.land S p_A = S) (h2 : Nat.land S (2 ^ 44 + 2 ^ 45) = 0) : p_D t q M M' := ⟨p_F_fl h f, fun j _ => y_fa (i := 179) f.1 (by decide) (y_dis h2 (by decide)) j, fun k _ => y_fa (i := 180) f.1 (by decide) (y_dis h2 (by decide)) k⟩
theorem p_D_G {t q : Nat} {M M' : gM} (f : p_D t q M M') (h : 48 * t ≤ q) : p_G p_A t M M' := ⟨f.1.1, fun j hj => f.1.2.2 j (by omega), fun j hj => f.2.1 j (by omega), f.2.2⟩
/-- a mark is made -/
theorem p_mark {S t a d c q j : Nat} {v : Int32} {M : gM} (I : p_I t a d c M) (hq : q ≤ j) (hj : j < 288) (hv : -1 ≤ v.toInt ∧ v.toInt ≤ 400) : p_I t a d c (mI M 179 j v) ∧ p_D t q M (mI M 179 j v) ∧ n_x (mI M 179 j v) = n_x M ∧ n_l (mI M 179 j v) t = n_l M t := by
  obtain ⟨H1, f1⟩ := y_set (M' := mI M 179 j v) (S := 2 ^ 44) I.1.1.1 (i := 179) (k := j) (by decide) rfl rfl y_mI1 (fun j a hj => y_mI2 hj) rfl hv (show Nat.testBit (2 ^ 44) 44 = true by decide)
  have x1 := n_fx f1 (by decide)
  refine ⟨p_I_of I H1 f1 (by decide) ⟨by rw [x1]; exact I.2.1.1, by rw [x1]; exact I.2.1.2⟩ (by rw [n_fm f1 (by decide)]; exact Nat.le_refl _), ⟨p_F_of f1 (by decide) (by decide) (by decide), fun k hk => mI_ne (Or.inr (by omega)), fun k _ => mI_ne (Or.inl (by decide))⟩, x1, n_fl f1 (by decide)⟩
theorem i_neg1 : (-1 : Int32).toInt = -1 := rfl
/-- the clause ends -/
theorem P_fade_b110 {t c q : Nat} {l1 : Int32} {M M0 : gM} (H : y_HT M) (ht : t ≤ 5) (e11 : (M.2.1 175 11).toInt = (t : Int)) (hx : n_l M t ≤ n_x M ∧ n_x M ≤ n_s M) (hq : q = 48 * t + 4 * c) (hl : l1.toInt = (q : Int)) (hc : c < 12) (D : p_D t q M0 M) (hcc : n_cc M t = c)
    (C0 : ∀ k, k < c → p_cl M0 t (48 * t + 4 * k))
    (h1 : y_sg (y_sn M t) (M.2.1 179 q) (M.2.1 179 (q + 1)) ∧ (M.2.1 179 (q + 1)).toInt ≤ (n_l M t : Int)) (h2 : 0 ≤ (M.2.1 179 (q + 2)).toInt → y_sg (y_sn M t) (M.2.1 179 (q + 2)) (M.2.1 178 t)) :
    Ok (F_X12_isFadeHere_b110 (some 175) l1 M) (fun r => (y_HT r.2 ∧ p_D t q M0 r.2) ∧ (r.1 = 1 ∧ p_K t (c + 1) r.2 ∧ n_x r.2 = n_x M)) := by
  have ct : (M.2.1 175 11).toNatClampNeg = t := i_cl e11
  have z3 : (3 : Int32).toInt = 3 := rfl
  have a1 := i_addc (x := l1) (c := (3 : Int32)) z3 (by omega) (by omega)
  have c3 : (l1 + (3 : Int32)).toNatClampNeg = q + 3 := i_cl (by omega)
  have ll := n_l1 H t
  have cc1 := n_cc1 H t
  delta F_X12_isFadeHere_b110
  rw [e_gR H (w := 179) rfl (by decide), Option.bind_some, e_gR H (w := 178) rfl (by decide), Option.bind_some, e_gI H, Option.bind_some, e_aI H (t := 20) (i := 178) (n := 7) rfl (by decide) (by omega) (by omega), Option.bind_some, ct, e_sI H (i := 179) (n := 288) rfl (by omega) (by omega), Option.bind_some, c3]
  obtain ⟨H5, f5⟩ := y_set (M' := mI M 179 (q + 3) (M.2.1 178 t)) (S := 2 ^ 44) H (i := 179) (k := q + 3) (by decide) rfl rfl y_mI1 (fun j a hj => y_mI2 hj) rfl (y_in (lo := -1) (hi := 400) rfl (by omega)) (show Nat.testBit (2 ^ 44) 44 = true by decide)
  have e3 : (mI M 179 (q + 3) (M.2.1 178 t)).2.1 179 (q + 3) = M.2.1 178 t := y_mI1
  have eo : ∀ j, j ≠ q + 3 → (mI M 179 (q + 3) (M.2.1 178 t)).2.1 179 j = M.2.1 179 j := fun j hj => mI_ne (Or.inr hj)
  generalize mI M 179 (q + 3) (M.2.1 178 t) = M5 at H5 f5 e3 eo ⊢
  have e11' := y_fk (i := 175) (k := 11) f5 (by decide)
  have e180 : ∀ k, M5.2.1 180 k = M.2.1 180 k := fun k => y_fa (i := 180) f5 (by decide) (by decide) k
  have inc : M5.2.1 180 t + (1 : Int32) = Int32.ofNat (c + 1) := n_inc (by rw [e180, cc1.1, hcc]) (by omega)
  rw [e_gR H5 (w := 180) rfl (by decide), Option.bind_some, e_gI H5, Option.bind_some, e11', e_aI H5 (t := 20) (i := 180) (n := 6) rfl (by decide) (by omega) (by omega), Option.bind_some, ct, e_sI H5 (i := 180) (n := 6) rfl (by omega) (by omega), Option.bind_some, ct, inc]
  have ci : (Int32.ofNat (c + 1)).toInt = ((c + 1 : Nat) : Int) := i_ofNat (by omega)
  obtain ⟨H9, f9⟩ := y_set (M' := mI M5 180 t (Int32.ofNat (c + 1))) (S := 2 ^ 45) H5 (i := 180) (k := t) (by decide) rfl rfl y_mI1 (fun j a hj => y_mI2 hj) rfl (y_in (lo := 0) (hi := 12) rfl (by omega)) (show Nat.testBit (2 ^ 45) 45 = true by decide)
  have e9 : (mI M5 180 t (Int32.ofNat (c + 1))).2.1 180 t = Int32.ofNat (c + 1) := y_mI1
  have e9o : ∀ k, k ≠ t → (mI M5 180 t (Int32.ofNat (c + 1))).2.1 180 k = M5.2.1 180 k := fun k hk => mI_ne (Or.inr hk)
  generalize mI M5 180 t (Int32.ofNat (c + 1)) = M9 at H9 f9 e9 e9o ⊢
  have F := y_tr (y_fl (S2 := 2 ^ 44 + 2 ^ 45) (by decide) f5) (y_fl (S2 := 2 ^ 44 + 2 ^ 45) (by decide) f9)
  have x9 := n_fx F (by decide)
  have s9 := n_fs F (by decide)
  have l9 := n_fl (t := t) F (by decide)
  have a9 : ∀ j, j ≠ q + 3 → M9.2.1 179 j = M.2.1 179 j := fun j hj => (y_fa (i := 179) f9 (by decide) (by decide) j).trans (eo j hj)
  have b9 : M9.2.1 179 (q + 3) = M.2.1 178 t := (y_fa (i := 179) f9 (by decide) (by decide) _).trans e3
  have sn9 : y_sn M9 t = y_sn M t := y_snf F (by decide) t
  have D9 : p_D t q M M9 := ⟨p_F_of F (by decide) (by decide) (by decide), fun j hj => a9 j (by omega), fun k hk => (e9o k hk).trans (e180 k)⟩
  have DD := p_D_tr D D9
  refine Ok_s ⟨⟨H9, DD⟩, rfl, ⟨⟨⟨H9, ht⟩, by rw [y_fk (i := 175) (k := 11) F (by decide)]; exact e11⟩, ⟨by rw [l9, x9]; exact hx.1, by rw [x9, s9]; exact hx.2⟩, ?_, fun k hk => ?_⟩, x9⟩
  · show (M9.2.1 180 t).toInt.toNat = c + 1
    rw [e9, ci]
    rfl
  · rcases Nat.lt_or_ge k c with h | h
    · exact p_cl_mo (C0 k h) DD.1.2.1 DD.1.2.2 (fun j hj => DD.2.1 _ (by omega))
    · have e : 48 * t + 4 * k = q := by omega
      rw [e]
      unfold p_cl y_cl
      rw [a9 q (by omega), a9 (q + 1) (by omega), a9 (q + 2) (by omega), b9, sn9, l9]
      exact ⟨⟨h1.1, h2⟩, h1.2, fun _ => by omega⟩
theorem P_isFadeHere {t c : Nat} {M : gM} (K : p_K t c M) (hc : c < 12) : Ok (F_X12_isFadeHere (some 175) M) (p_R p_A t (c + 1) M) := by
  obtain ⟨⟨⟨H, ht⟩, e11⟩, hx, hcc, C0⟩ := K
  have s1 := n_s1 H
  have cc1 := n_cc1 H t
  have e2 := n_le_le (M := M) (p := n_x M) hx.2
  delta F_X12_isFadeHere F_X12_isFadeHere_b0
  rw [e_gO H, Option.bind_some, R_passWord H hx.2, Option.bind_some]
  have I0 : p_I t (n_l M t) 0 0 M := ⟨⟨⟨H, ht⟩, e11⟩, ⟨hx.1, hx.2⟩, ⟨Nat.le_refl _, by rw [Nat.sub_self]; rfl⟩, Nat.zero_le _⟩
  have I2 : p_I t (n_l M t) 0 0 (n_at M (n_le M (n_x M))) := p_I_at I0 (by omega) e2.2
  have F2 : p_F p_E t M (n_at M (n_le M (n_x M))) := p_F_at H (by omega) (by decide)
  have x2 : n_x (n_at M (n_le M (n_x M))) = n_le M (n_x M) := n_at_x (by omega)
  have l2 : n_l (n_at M (n_le M (n_x M))) t = n_l M t := n_at_l
  have c2 : n_cc (n_at M (n_le M (n_x M))) t = c := by
    unfold n_cc
    rw [n_ata (by decide)]
    exact hcc
  generalize n_at M (n_le M (n_x M)) = M2 at I2 F2 x2 l2 c2 ⊢
  have H2 := I2.1.1.1
  have t2 := I2.1.2
  have ct2 : (M2.2.1 175 11).toNatClampNeg = t := i_cl t2
  have ll2 := n_l1 H2 t
  have cc2 := n_cc1 H2 t
  have a1 := i_mulL (c := (48 : Int32)) (x := M2.2.1 175 11) (n := 48) rfl (by omega) (by omega)
  have a2 := i_mulL (c := (4 : Int32)) (x := M2.2.1 180 t) (n := 4) rfl (by omega) (by omega)
  have a3 := i_add (x := (48 : Int32) * M2.2.1 175 11) (y := (4 : Int32) * M2.2.1 180 t) (by omega) (by omega)
  rw [e_gI H2, Option.bind_some, e_gR H2 (w := 180) rfl (by decide), Option.bind_some, Option.bind_some, e_aI H2 (t := 20) (i := 180) (n := 6) rfl (by decide) (by omega) (by omega), Option.bind_some, ct2]
  obtain ⟨q, hq⟩ : ∃ q, q = 48 * t + 4 * c := ⟨_, rfl⟩
  obtain ⟨l, hl⟩ : ∃ l, l = (48 : Int32) * M2.2.1 175 11 + (4 : Int32) * M2.2.1 180 t := ⟨_, rfl⟩
  rw [← hl] at a3 ⊢
  have lq : l.toInt = (q : Int) := by omega
  have lc : l.toNatClampNeg = q := i_cl lq
  have b1 := i_addc (x := l) (c := (1 : Int32)) (n := 1) rfl (by omega) (by omega)
  have b2 := i_addc (x := l) (c := (2 : Int32)) (n := 2) rfl (by omega) (by omega)
  have lc1 : (l + (1 : Int32)).toNatClampNeg = q + 1 := i_cl (by omega)
  have lc2 : (l + (2 : Int32)).toNatClampNeg = q + 2 := i_cl (by omega)
  rw [e_gR H2 (w := 179) rfl (by decide), Option.bind_some, e_gR H2 (w := 178) rfl (by decide), Option.bind_some, Option.bind_some, e_aI H2 (t := 20) (i := 178) (n := 7) rfl (by decide) (by omega) (by omega), Option.bind_some, ct2, e_sI H2 (i := 179) (n := 288) rfl (by omega) (by omega), Option.bind_some, lc]
  obtain ⟨I11, D11, x11, l11⟩ := p_mark (S := 0) (q := q) (j := q) (v := M2.2.1 178 t) I2 (Nat.le_refl _) (by omega) (by omega)
  have v11 : (mI M2 179 q (M2.2.1 178 t)).2.1 179 q = M2.2.1 178 t := y_mI1
  have c11 : n_cc (mI M2 179 q (M2.2.1 178 t)) t = c := by
    unfold n_cc
    rw [mI_ne (Or.inl (by decide))]
    exact c2
  generalize mI M2 179 q (M2.2.1 178 t) = M11 at I11 D11 x11 l11 v11 c11 ⊢
  have H11 := I11.1.1.1
  have D2 : p_D t q M M11 := p_D_tr (p_D_F F2 (by decide) (by decide)) D11
  rw [e_gC H11, Option.bind_some]
  refine Ok_b (P_sum I11) (fun y z => ?_)
  obtain ⟨v13, M14⟩ := y
  obtain ⟨⟨H14, F14⟩, ⟨h5, g5⟩ | ⟨h5, I14, x14⟩⟩ := z
  · dsimp only at h5 g5 H14 F14 ⊢
    subst h5
    rw [if_pos rfl]
    exact Ok_s ⟨⟨H14, p_D_G (p_D_tr D2 (p_D_F F14 (by decide) (by decide))) (by omega)⟩, Or.inl ⟨rfl, g5⟩⟩
  dsimp only at h5 I14 x14 H14 F14 ⊢
  subst h5
  have D14 := p_D_tr D2 (p_D_F (q := q) F14 (by decide) (by decide))
  have v14 : M14.2.1 179 q = M2.2.1 178 t := (y_fa (i := 179) F14.1 (by decide) (by decide) q).trans v11
  have c14 : n_cc M14 t = c := by
    unfold n_cc
    rw [y_fa (i := 180) F14.1 (by decide) (by decide) t]
    exact c11
  have t14 := I14.1.2
  have ct14 : (M14.2.1 175 11).toNatClampNeg = t := i_cl t14
  have ll14 := n_l1 H14 t
  rw [if_neg (by decide), e_gR H14 (w := 179) rfl (by decide), Option.bind_some, e_gR H14 (w := 178) rfl (by decide), Option.bind_some, e_gI H14, Option.bind_some, e_aI H14 (t := 20) (i := 178) (n := 7) rfl (by decide) (by omega) (by omega), Option.bind_some, ct14, e_sI H14 (i := 179) (n := 288) rfl (by omega) (by omega), Option.bind_some, lc1]
  obtain ⟨I19, D19, x19, l19⟩ := p_mark (S := 0) (q := q) (j := q + 1) (v := M14.2.1 178 t) I14 (by omega) (by omega) (by omega)
  have v19 : (mI M14 179 (q + 1) (M14.2.1 178 t)).2.1 179 (q + 1) = M14.2.1 178 t := y_mI1
  have w19 : (mI M14 179 (q + 1) (M14.2.1 178 t)).2.1 179 q = M2.2.1 178 t := (mI_ne (Or.inr (by omega))).trans v14
  have c19 : n_cc (mI M14 179 (q + 1) (M14.2.1 178 t)) t = c := by
    unfold n_cc
    rw [mI_ne (Or.inl (by decide))]
    exact c14
  generalize mI M14 179 (q + 1) (M14.2.1 178 t) = M19 at I19 D19 x19 l19 v19 w19 c19 ⊢
  have H19 := I19.1.1.1
  rw [e_gR H19 (w := 179) rfl (by decide), Option.bind_some, e_sI H19 (i := 179) (n := 288) rfl (by omega) (by omega), Option.bind_some, lc2]
  obtain ⟨I21, D21, x21, l21⟩ := p_mark (S := 0) (q := q) (j := q + 2) (v := (-1 : Int32)) I19 (by omega) (by omega) (by decide)
  have u21 : (mI M19 179 (q + 2) (-1 : Int32)).2.1 179 (q + 2) = -1 := y_mI1
  have v21 : (mI M19 179 (q + 2) (-1 : Int32)).2.1 179 (q + 1) = M14.2.1 178 t := (mI_ne (Or.inr (by omega))).trans v19
  have w21 : (mI M19 179 (q + 2) (-1 : Int32)).2.1 179 q = M2.2.1 178 t := (mI_ne (Or.inr (by omega))).trans w19
  have c21 : n_cc (mI M19 179 (q + 2) (-1 : Int32)) t = c := by
    unfold n_cc
    rw [mI_ne (Or.inl (by decide))]
    exact c19
  generalize mI M19 179 (q + 2) (-1 : Int32) = M21 at I21 D21 x21 l21 u21 v21 w21 c21 ⊢
  have H21 := I21.1.1.1
  have h21 := I21.2.1
  have s21 := n_s1 H21
  have k21 := n_sk_le h21.2
  have D' : p_D t q M M21 := p_D_tr D14 (p_D_tr D19 D21)
  have la : n_l M21 t = n_l M14 t := by omega
  have sg : y_sg (y_sn M21 t) (M21.2.1 179 q) (M21.2.1 179 (q + 1)) ∧ (M21.2.1 179 (q + 1)).toInt ≤ (n_l M21 t : Int) := by
    have hev := I21.2.2.1
    rw [w21, v21]
    refine ⟨⟨by omega, ?_⟩, by omega⟩
    rw [show (M2.2.1 178 t).toInt.toNat = n_l M t by omega, show ((M14.2.1 178 t).toInt - (M2.2.1 178 t).toInt).toNat = n_l M21 t - n_l M t by omega]
    exact hev.2
  rw [e_gC H21, Option.bind_some, R_takesWord H21 h21.2, Option.bind_some]
  -- what stands behind see and a word
  have mv : ∀ p, n_x M21 ≤ p → p ≤ n_s M21 → p_I t (n_l M t) 1 0 (n_at M21 p) ∧ p_D t q M (n_at M21 p) ∧ n_x (n_at M21 p) = p ∧ n_l (n_at M21 p) t = n_l M21 t ∧ (∀ j, (n_at M21 p).2.1 179 j = M21.2.1 179 j) ∧ y_sn (n_at M21 p) t = y_sn M21 t ∧ n_cc (n_at M21 p) t = c ∧ n_s (n_at M21 p) = n_s M21 := by
    intro p h1 h2
    have Ip : p_I t (n_l M t) (0 + 1) 0 (n_at M21 p) := p_I_at I21 (by omega) h2
    have fp := (n_at_set (p := p) H21 (by omega)).2
    refine ⟨Ip, p_D_tr D' (p_D_F (S := p_E) (p_F_at H21 (by omega) (by decide)) (by decide) (by decide)), n_at_x (by omega), n_at_l, fun j => y_fa (i := 179) fp (by decide) (by decide) j, y_snf fp (by decide) t, ?_, n_at_s⟩
    unfold n_cc
    rw [y_fa (i := 180) fp (by decide) (by decide) t]
    exact c21
  by_cases cw : n_w M21 (n_sk M21 (n_x M21)) 26982 = true
  · rw [if_pos cw]
    dsimp only
    have e9 := n_le_le (M := M21) (p := n_sk M21 (n_x M21)) (by omega)
    obtain ⟨I24, D24, x24, l24, a24, sn24, c24, s24⟩ := mv (n_le M21 (n_sk M21 (n_x M21))) (by omega) e9.2
    generalize n_at M21 (n_le M21 (n_sk M21 (n_x M21))) = M24 at I24 D24 x24 l24 a24 sn24 c24 s24 ⊢
    have H24 := I24.1.1.1
    have t24 := I24.1.2
    have ct24 : (M24.2.1 175 11).toNatClampNeg = t := i_cl t24
    have ll24 := n_l1 H24 t
    rw [if_neg (by decide), e_gR H24 (w := 179) rfl (by decide), Option.bind_some, e_gR H24 (w := 178) rfl (by decide), Option.bind_some, e_gI H24, Option.bind_some, e_aI H24 (t := 20) (i := 178) (n := 7) rfl (by decide) (by omega) (by omega), Option.bind_some, ct24, e_sI H24 (i := 179) (n := 288) rfl (by omega) (by omega), Option.bind_some, lc2]
    obtain ⟨I29, D29, x29, l29⟩ := p_mark (S := 0) (q := q) (j := q + 2) (v := M24.2.1 178 t) I24 (by omega) (by omega) (by omega)
    have u29 : (mI M24 179 (q + 2) (M24.2.1 178 t)).2.1 179 (q + 2) = M24.2.1 178 t := y_mI1
    have v29 : ∀ j, j ≠ q + 2 → (mI M24 179 (q + 2) (M24.2.1 178 t)).2.1 179 j = M21.2.1 179 j := fun j hj => (mI_ne (Or.inr hj)).trans (a24 j)
    have sn29 : y_sn (mI M24 179 (q + 2) (M24.2.1 178 t)) t = y_sn M21 t := Eq.trans (funext (fun j => mI_ne (Or.inl (by decide)))) sn24
    have c29 : n_cc (mI M24 179 (q + 2) (M24.2.1 178 t)) t = c := by
      unfold n_cc
      rw [mI_ne (Or.inl (by decide))]
      exact c24
    generalize mI M24 179 (q + 2) (M24.2.1 178 t) = M29 at I29 D29 x29 l29 u29 v29 sn29 c29 ⊢
    have H29 := I29.1.1.1
    have ll29 := n_l1 H29 t
    have J29 : p_I t (n_l M29 t) 0 0 M29 := ⟨I29.1, ⟨I29.2.1.1, I29.2.1.2⟩, ⟨Nat.le_refl _, by rw [Nat.sub_self]; rfl⟩, Nat.zero_le _⟩
    rw [e_gC H29, Option.bind_some]
    refine Ok_b (P_tested J29) (fun y z => ?_)
    obtain ⟨v31, M32⟩ := y
    obtain ⟨⟨H32, F32⟩, ⟨h5, g5⟩ | ⟨h5, I32, x32⟩⟩ := z
    · dsimp only at h5 g5 H32 F32 ⊢
      subst h5
      rw [if_pos rfl]
      exact Ok_s ⟨⟨H32, p_D_G (p_D_tr D24 (p_D_tr D29 (p_D_F F32 (by decide) (by decide)))) (by omega)⟩, Or.inl ⟨rfl, g5⟩⟩
    dsimp only at h5 I32 x32 H32 F32 ⊢
    subst h5
    rw [if_neg (by decide)]
    have a32 : ∀ j, M32.2.1 179 j = M29.2.1 179 j := fun j => y_fa (i := 179) F32.1 (by decide) (by decide) j
    have c32 : n_cc M32 t = c := by
      unfold n_cc
      rw [y_fa (i := 180) F32.1 (by decide) (by decide) t]
      exact c29
    have ll32 := n_l1 H32 t
    have g1 := F32.2.1
    refine Ok_w (P_fade_b110 (q := q) (c := c) (M0 := M) H32 ht I32.1.2 ⟨I32.2.1.1, I32.2.1.2⟩ hq lq hc (p_D_tr D24 (p_D_tr D29 (p_D_F F32 (by decide) (by decide)))) c32 C0 ⟨?_, ?_⟩ (fun _ => ?_)) (fun r z => ?_)
    · rw [a32, a32, v29 q (by omega), v29 (q + 1) (by omega)]
      refine y_sg_c sg.1 (fun j hj => ?_)
      show M32.2.1 177 (400 * t + j) = _
      rw [F32.2.2 _ (by have := sg.2; omega)]
      exact congrFun sn29 j
    · rw [a32, v29 (q + 1) (by omega)]
      have := sg.2
      omega
    · rw [a32, u29]
      have hev := I32.2.2.1
      refine ⟨by omega, ?_⟩
      rw [show (M24.2.1 178 t).toInt.toNat = n_l M29 t by omega, show ((M32.2.1 178 t).toInt - (M24.2.1 178 t).toInt).toNat = n_l M32 t - n_l M29 t by omega]
      exact hev.2
    · exact ⟨⟨z.1.1, p_D_G z.1.2 (by omega)⟩, Or.inr ⟨z.2.1, z.2.2.1, by have := z.2.2.2; omega⟩⟩
  · rw [if_neg cw]
    dsimp only
    obtain ⟨I24, D24, x24, l24, a24, sn24, c24, s24⟩ := mv (n_sk M21 (n_x M21)) (by omega) (by omega)
    generalize n_at M21 (n_sk M21 (n_x M21)) = M24 at I24 D24 x24 l24 a24 sn24 c24 s24 ⊢
    have H24 := I24.1.1.1
    rw [if_pos rfl]
    refine Ok_w (P_fade_b110 (q := q) (c := c) (M0 := M) H24 ht I24.1.2 ⟨I24.2.1.1, I24.2.1.2⟩ hq lq hc D24 c24 C0 ⟨?_, ?_⟩ (fun h => ?_)) (fun r z => ?_)
    · rw [a24, a24, sn24]
      exact sg.1
    · rw [a24, l24]
      exact sg.2
    · rw [a24, u21] at h
      exact absurd h (by decide)
    · exact ⟨⟨z.1.1, p_D_G z.1.2 (by omega)⟩, Or.inr ⟨z.2.1, z.2.2.1, by have := z.2.2.2; omega⟩⟩
-- 58.house
/-! a HOUSE is read -/
abbrev h_A : Nat := 2 ^ 8 + 2 ^ 9 + 2 ^ 10 + 2 ^ 14 + 2 ^ 46
def h_F (M M' : gM) : Prop := y_Fr h_A M M' ∧ n_x M ≤ n_x M' ∧ n_x M' ≤ n_s M'
theorem h_tr {M M1 M2 : gM} (h1 : h_F M M1) (h2 : h_F M1 M2) : h_F M M2 := ⟨y_tr h1.1 h2.1, Nat.le_trans h1.2.1 h2.2.1, h2.2.2⟩
def h_Q (M : gM) : Int32 × gM → Prop := fun r => (y_HT r.2 ∧ y_Fr h_A M r.2) ∧ ((r.1 = 0 ∧ r.2.2.1 175 9 ≠ 0) ∨ (r.1 = 1 ∧ h_F M r.2))
theorem h_Q0 {M M' : gM} (H : y_HT M') (f : y_Fr h_A M M') (h : M'.2.1 175 9 ≠ 0) : Ok (some ((0 : Int32), M')) (h_Q M) := Ok_s ⟨⟨H, f⟩, Or.inl ⟨rfl, h⟩⟩
theorem h_Q1 {M M' : gM} (H : y_HT M') (f : h_F M M') : Ok (some ((1 : Int32), M')) (h_Q M) := Ok_s ⟨⟨H, f.1⟩, Or.inr ⟨rfl, f⟩⟩
theorem h_Qw {M M1 : gM} {o : Option (Int32 × gM)} (f : h_F M M1) (h : Ok o (h_Q M1)) : Ok o (h_Q M) := Ok_w h (fun _ z => ⟨⟨z.1.1, y_tr f.1 z.1.2⟩, z.2.imp id (fun w => ⟨w.1, h_tr f w.2⟩)⟩)
theorem h_F_at {M : gM} {p : Nat} (H : y_HT M) (h1 : n_x M ≤ p) (h2 : p ≤ n_s M) : y_HT (n_at M p) ∧ h_F M (n_at M p) := by
  have s1 := n_s1 H
  obtain ⟨H1, f1⟩ := n_at_set (p := p) H (by omega)
  exact ⟨H1, y_fl (by decide) f1, by rw [n_at_x (by omega)]; exact h1, by rw [n_at_x (by omega), n_at_s]; exact h2⟩
theorem h_see {M : gM} {β : Type} {f : Int32 × gM → Option β} {Q : β → Prop} (H : y_HT M) (hx : n_x M ≤ n_s M) (h : ∀ M', y_HT M' → h_F M M' → M' = n_at M (n_sk M (n_x M)) → Ok (f (n_c M (n_x M'), M')) Q) : Ok ((F_X12_see (some 175) M).bind f) Q := by
  have k1 := n_sk_le hx
  have s1 := n_s1 H
  rw [R_see H hx, Option.bind_some]
  obtain ⟨H1, f1⟩ := h_F_at (p := n_sk M (n_x M)) H k1.1 k1.2
  have := h _ H1 f1 rfl
  rw [n_at_x (by omega)] at this
  exact this
theorem h_word {M : gM} {w : Int64} {β : Type} {f : Int32 × gM → Option β} {Q : β → Prop} (H : y_HT M) (hx : n_x M ≤ n_s M) (h : ∀ v M', v = 0 ∨ v = 1 → y_HT M' → h_F M M' → Ok (f (v, M')) Q) : Ok ((F_X12_isWord (some 175) w M).bind f) Q := by
  have k1 := n_sk_le hx
  rw [R_isWord H hx, Option.bind_some]
  obtain ⟨H1, f1⟩ := h_F_at (p := n_sk M (n_x M)) H k1.1 k1.2
  refine h _ _ ?_ H1 f1
  by_cases c : n_w M (n_sk M (n_x M)) w = true
  · rw [if_pos c]
    exact Or.inr rfl
  · rw [if_neg c]
    exact Or.inl rfl
theorem h_pass {M : gM} {β : Type} {f : gM → Option β} {Q : β → Prop} (H : y_HT M) (hx : n_x M ≤ n_s M) (h : ∀ M', y_HT M' → h_F M M' → M'.2.1 181 = M.2.1 181 → Ok (f M') Q) : Ok ((F_X12_passWord (some 175) M).bind f) Q := by
  have k1 := n_le_le hx
  rw [R_passWord H hx, Option.bind_some]
  obtain ⟨H1, f1⟩ := h_F_at (p := n_le M (n_x M)) H k1.1 k1.2
  exact h _ H1 f1 (n_ata (by decide))
theorem h_fails {M : gM} {k p : Int32} {q : Nat} {β : Type} {f : Int32 × gM → Option β} {Q : β → Prop} (H : y_HT M) (hp : p.toInt = (q : Int)) (hq : q ≤ 400) (hk : 0 ≤ k.toInt ∧ k.toInt ≤ 4) (h : ∀ M', y_HT M' → y_Fr h_A M M' → M'.2.1 175 9 ≠ 0 → Ok (f (0, M')) Q) : Ok ((F_X12_fails (some 175) k p M).bind f) Q := by
  rw [R_fails H, Option.bind_some]
  obtain ⟨H1, f1⟩ := n_f_set (k := k) (p := p) H
  exact h _ H1 (y_fl (by decide) f1) (n_f9 hp hq hk)
theorem h_num {M : gM} {lo hi : Int32} {β : Type} {f : Int32 × gM → Option β} {Q : β → Prop} (H : y_HT M) (hx : n_x M ≤ n_s M) (h0 : ∀ M', y_HT M' → y_Fr h_A M M' → M'.2.1 175 9 ≠ 0 → Ok (f (0, M')) Q)
    (h1 : ∀ M', y_HT M' → h_F M M' → (lo.toInt ≤ (M'.2.1 175 10).toInt ∧ (M'.2.1 175 10).toInt ≤ hi.toInt) → M'.2.1 181 = M.2.1 181 → Ok (f (1, M')) Q) : Ok ((F_X12_numberHere (some 175) lo hi M).bind f) Q := by
  have k1 := n_sk_le hx
  have s1 := n_s1 H
  obtain ⟨p, hp⟩ : ∃ p, p = n_sk M (n_x M) := ⟨_, rfl⟩
  rw [← hp] at k1
  have xi : (Int32.ofNat p).toInt = (p : Int) := i_ofNat (by omega)
  rw [R_numberHere H hx hp, Option.bind_some]
  by_cases c : n_D M p = true
  · rw [if_pos c]
    obtain ⟨H2, f2⟩ := n_an_set (p := p) H (by omega)
    have d1 := n_de_le (M := M) (p := p) (by omega)
    by_cases c2 : n_ok M p lo.toInt hi.toInt = true
    · rw [if_pos c2]
      have x2 : n_x (n_an M p) = n_de M p := by
        show ((n_an M p).2.1 175 8).toInt.toNat = _
        unfold n_an
        rw [mI_ne (Or.inr (by decide)), n_at8, i_ofNat (by omega)]
        omega
      have s2 := n_fs f2 (by decide)
      refine h1 _ H2 ⟨y_fl (by decide) f2, by omega, by omega⟩ ?_ (funext (fun a => y_fa (i := 181) f2 (by decide) (by decide) a))
      have e : (n_an M p).2.1 175 10 = n_v M p := y_mI1
      rw [e]
      exact (of_decide_eq_true c2).2
    · rw [if_neg c2]
      obtain ⟨H3, f3⟩ := n_f_set (k := 1) (p := Int32.ofNat p) H2
      exact h0 _ H3 (y_tr (y_fl (by decide) f2) (y_fl (by decide) f3)) (n_f9 xi (by omega) (by decide))
  · rw [if_neg c]
    obtain ⟨H1, f1⟩ := n_at_set (p := p) H (by omega)
    obtain ⟨H3, f3⟩ := n_f_set (k := 0) (p := Int32.ofNat p) H1
    exact h0 _ H3 (y_tr (y_fl (by decide) f1) (y_fl (by decide) f3)) (n_f9 xi (by omega) (by decide))
/-- a cell of what is read -/
theorem h_s {M : gM} {j v : Int32} {k : Nat} {β : Type} {f : gM → Option β} {Q : β → Prop} (H : y_HT M) (hx : n_x M ≤ n_s M) (hj : j.toInt = (k : Int)) (hk : k < 157) (hr : y_rg (y_tS k) v) (h : ∀ M', y_HT M' → h_F M M' → (∀ a, a ≠ k → M'.2.1 181 a = M.2.1 181 a) → M'.2.1 175 10 = M.2.1 175 10 → Ok (f M') Q) : Ok ((sI M (some 181) j v).bind f) Q := by
  refine y_sI (S := 2 ^ 46) H (i := 181) (n := 157) rfl (by omega) (by omega) (by rw [i_cl hj]; exact hr) (by decide) (fun M' H' f' e' o' l' => ?_)
  refine h M' H' ⟨y_fl (by decide) f', ?_, ?_⟩ (fun a ha => o' 181 a (Or.inr (by rw [i_cl hj]; exact ha))) (o' 175 10 (Or.inl (by decide)))
  · rw [n_fx f' (by decide)]
    exact Nat.le_refl _
  · rw [n_fx f' (by decide), n_fs f' (by decide)]
    exact hx
theorem h_cell {M : gM} {j lo hi : Int32} {k : Nat} {β : Type} {f : Int32 × gM → Option β} {Q : β → Prop} (H : y_HT M) (hx : n_x M ≤ n_s M) (hj : j.toInt = (k : Int)) (hk : k < 157) (hr : ∀ v : Int32, lo.toInt ≤ v.toInt → v.toInt ≤ hi.toInt → y_rg (y_tS k) v) (h0 : ∀ M', y_HT M' → y_Fr h_A M M' → M'.2.1 175 9 ≠ 0 → Ok (f (0, M')) Q)
    (h1 : ∀ M', y_HT M' → h_F M M' → (∀ a, a ≠ k → M'.2.1 181 a = M.2.1 181 a) → Ok (f (1, M')) Q) : Ok ((F_X12_cellHere (some 175) j lo hi M).bind f) Q := by
  refine Ok_b (P := fun r => (r.1 = 0 ∧ y_HT r.2 ∧ y_Fr h_A M r.2 ∧ r.2.2.1 175 9 ≠ 0) ∨ (r.1 = 1 ∧ y_HT r.2 ∧ h_F M r.2 ∧ ∀ a, a ≠ k → r.2.2.1 181 a = M.2.1 181 a)) ?_ (fun r z => ?_)
  · delta F_X12_cellHere F_X12_cellHere_b0
    rw [e_gO H, Option.bind_some]
    refine h_num H hx (fun M' H' f' g' => ?_) (fun M' H' f' r' u' => ?_)
    · dsimp only
      rw [if_pos rfl]
      exact Ok_s (Or.inl ⟨rfl, H', f', g'⟩)
    · dsimp only
      rw [if_neg (by decide), e_gR H' (w := 181) rfl (by decide), Option.bind_some, e_gI H', Option.bind_some]
      refine h_s H' f'.2.2 hj hk (hr _ r'.1 r'.2) (fun M2 H2 f2 o2 _ => ?_)
      exact Ok_s (Or.inr ⟨rfl, H2, h_tr f' f2, fun a ha => (o2 a ha).trans (congrFun u' a)⟩)
  · obtain ⟨a, b⟩ := r
    rcases z with ⟨z, z2, z3, z4⟩ | ⟨z, z2, z3, z4⟩
    · dsimp only at z
      subst z
      exact h0 _ z2 z3 z4
    · dsimp only at z
      subst z
      exact h1 _ z2 z3 z4
theorem h_tSf {k : Nat} {v : Int32} (h : y_tS k = (-2147483648, 2147483647)) : y_rg (y_tS k) v := by
  rw [h]
  exact i_rng v
theorem h_rd {M : gM} {k : Nat} {lo hi : Int} {j : Int32} {β : Type} {f : Int32 → Option β} {Q : β → Prop} (H : y_HT M) (hj : j.toInt = (k : Int)) (hk : k < 157) (ht : y_tS k = (lo, hi)) (h : ∀ v : Int32, M.2.1 181 k = v → (lo ≤ v.toInt ∧ v.toInt ≤ hi) → Ok (f v) Q) : Ok ((aI 20 M (some 181) j).bind f) Q := by
  refine y_aIr (lo := lo) (hi := hi) H (i := 181) (n := 157) rfl (by decide) (by omega) (by omega) (by rw [i_cl hj]; exact ht) (fun v e r => h v ?_ r)
  rw [← e, i_cl hj]
/-- the end of a clause that is one of the house's -/
theorem h_end {M M1 : gM} {o : Option (Int32 × gM)} (f : h_F M M1) (h : Ok o (h_Q M1)) : Ok (o.bind fun (v, M2) => if v = 0 ∨ v = 1 then some (v, M2) else none) (h_Q M) := by
  refine Ok_b h (fun r z => ?_)
  obtain ⟨a, b⟩ := r
  refine Ok_t ?_ (Ok_s ⟨⟨z.1.1, y_tr f.1 z.1.2⟩, z.2.imp id (fun w => ⟨w.1, h_tr f w.2⟩)⟩)
  rcases z.2 with z | z
  · exact Or.inl z.1
  · exact Or.inr z.1
theorem P_isHouseHere {M : gM} {l1 : Int32} {q : Nat} (H : y_HT M) (hx : n_x M ≤ n_s M) (hl : l1.toInt = (q : Int)) (hq : q ≤ 400) : Ok (F_X12_isHouseHere (some 175) l1 M) (h_Q M) := by
  delta F_X12_isHouseHere F_X12_isHouseHere_b0
  rw [e_gR H (w := 181) rfl (by decide), Option.bind_some]
  refine h_rd H (k := 0) rfl (by decide) rfl (fun v2 q2 r2 => ?_)
  refine Ok_i (fun c => ?_) (fun c => ?_)
  · rw [e_gO H, Option.bind_some]
    refine h_pass H hx (fun M4 H4 f4 u4 => ?_)
    rw [e_gC H4, Option.bind_some]
    refine h_cell H4 f4.2.2 (k := 5) rfl (by decide) (fun v _ _ => h_tSf rfl) (fun M7 H7 f7 g7 => ?_) (fun M7 H7 f7 u7 => ?_)
    · dsimp only
      rw [if_pos rfl]
      exact h_Q0 H7 (y_tr f4.1 f7) g7
    · dsimp only
      rw [if_neg (by decide), e_gR H7 (w := 181) rfl (by decide), Option.bind_some]
      refine h_s H7 f7.2.2 (k := 0) rfl (by decide) (h_tSf rfl) (fun M9 H9 f9 _ _ => ?_)
      exact h_Q1 H9 (h_tr f4 (h_tr f7 f9))
  · rw [e_gO H, Option.bind_some]
    refine h_fails H hl hq (by decide) (fun M' H' f' g' => ?_)
    dsimp only
    rw [if_pos (Or.inl rfl)]
    exact h_Q0 H' f' g'
theorem h_tS11 {k l : Nat} (h : l ≤ 6) (e : k = 11 + 4 * l) : y_tS k = (0, 20) := by
  unfold y_tS
  rw [if_neg (by omega), if_pos (by omega)]
theorem h_tS38 {k l : Nat} (h : l ≤ 6) (e : k = 38 + 2 * l) : y_tS k = (0, 99) := by
  unfold y_tS
  rw [if_neg (by omega), if_neg (by omega), if_pos (by omega)]
theorem h_tSn {k : Nat} (h1 : ¬ (k = 1 ∨ k = 2)) (h2 : ¬ (11 ≤ k ∧ k ≤ 35 ∧ k % 4 = 3)) (h3 : ¬ (38 ≤ k ∧ k ≤ 50 ∧ k % 2 = 0)) : y_tS k = (-2147483648, 2147483647) := by
  unfold y_tS
  rw [if_neg h1, if_neg h2, if_neg h3]
theorem h_in {k : Nat} {v : Int32} {lo hi : Int} (ht : y_tS k = (lo, hi)) (h : lo ≤ v.toInt ∧ v.toInt ≤ hi) : y_rg (y_tS k) v := by
  rw [ht]
  exact h
theorem P_isThingHere {M : gM} {l1 : Int32} {q : Nat} (H : y_HT M) (hx : n_x M ≤ n_s M) (hl : l1.toInt = (q : Int)) (hq : q ≤ 400) : Ok (F_X12_isThingHere (some 175) l1 M) (h_Q M) := by
  delta F_X12_isThingHere F_X12_isThingHere_b0 F_X12_isThingHere_b71
  have z7 : (7 : Int32).toInt = 7 := rfl
  have z0 : (0 : Int32).toInt = 0 := rfl
  have z20 : (20 : Int32).toInt = 20 := rfl
  rw [e_gR H (w := 181) rfl (by decide), Option.bind_some]
  refine h_rd H (k := 1) rfl (by decide) rfl (fun v2 q2 r2 => ?_)
  refine Ok_i (fun c => ?_) (fun c => ?_)
  · rw [e_gO H, Option.bind_some]
    refine h_fails H hl hq (by decide) (fun M' H' f' g' => ?_)
    dsimp only
    rw [if_pos (Or.inl rfl)]
    exact h_Q0 H' f' g'
  · have c' := i_ne c
    rw [e_gO H, Option.bind_some]
    refine h_pass H hx (fun M4 H4 f4 u4 => ?_)
    rw [e_gR H4 (w := 181) rfl (by decide), Option.bind_some]
    refine h_rd H4 (k := 1) rfl (by decide) rfl (fun v6 q6 r6 => ?_)
    have e6 : v6 = v2 := by
      rw [← q6, ← q2]
      exact congrFun u4 1
    obtain ⟨n, hn⟩ : ∃ n : Nat, v6.toInt = (n : Int) ∧ n ≤ 6 := ⟨v6.toInt.toNat, by omega, by rw [e6]; omega⟩
    have a1 := i_mulL (c := (4 : Int32)) (x := v6) (n := 4) rfl (by omega) (by omega)
    have a2 := i_cadd (c := (10 : Int32)) (x := (4 : Int32) * v6) (n := 10) rfl (by omega) (by omega)
    have a3 := i_addc (x := (10 : Int32) + (4 : Int32) * v6) (c := (1 : Int32)) (n := 1) rfl (by omega) (by omega)
    have a4 := i_addc (x := (10 : Int32) + (4 : Int32) * v6) (c := (2 : Int32)) (n := 2) rfl (by omega) (by omega)
    have a5 := i_addc (x := (10 : Int32) + (4 : Int32) * v6) (c := (3 : Int32)) (n := 3) rfl (by omega) (by omega)
    rw [e_gC H4, Option.bind_some]
    refine h_cell H4 f4.2.2 (k := 10 + 4 * n) (by omega) (by omega) (fun v _ _ => h_tSf (h_tSn (by omega) (by omega) (by omega))) (fun M9 H9 f9 g9 => ?_) (fun M9 H9 f9 u9 => ?_)
    · dsimp only
      rw [if_pos rfl]
      exact h_Q0 H9 (y_tr f4.1 f9) g9
    dsimp only
    rw [if_neg (by decide), e_gC H9, Option.bind_some]
    refine h_cell H9 f9.2.2 (k := 11 + 4 * n) (by omega) (by omega) (fun v b1 b2 => h_in (h_tS11 (l := n) (by omega) rfl) (by omega)) (fun M12 H12 f12 g12 => ?_) (fun M12 H12 f12 u12 => ?_)
    · dsimp only
      rw [if_pos rfl]
      exact h_Q0 H12 (y_tr f4.1 (y_tr f9.1 f12)) g12
    dsimp only
    rw [if_neg (by decide), e_gC H12, Option.bind_some]
    refine h_cell H12 f12.2.2 (k := 12 + 4 * n) (by omega) (by omega) (fun v _ _ => h_tSf (h_tSn (by omega) (by omega) (by omega))) (fun M15 H15 f15 g15 => ?_) (fun M15 H15 f15 u15 => ?_)
    · dsimp only
      rw [if_pos rfl]
      exact h_Q0 H15 (y_tr f4.1 (y_tr f9.1 (y_tr f12.1 f15))) g15
    dsimp only
    rw [if_neg (by decide), e_gR H15 (w := 181) rfl (by decide), Option.bind_some]
    refine h_s H15 f15.2.2 (k := 13 + 4 * n) (by omega) (by omega) (h_tSf (h_tSn (by omega) (by omega) (by omega))) (fun M17 H17 f17 o17 _ => ?_)
    rw [e_gR H17 (w := 181) rfl (by decide), Option.bind_some]
    refine h_rd H17 (k := 1) rfl (by decide) rfl (fun v19 q19 r19 => ?_)
    have F17 := h_tr f4 (h_tr f9 (h_tr f12 (h_tr f15 f17)))
    have e19 : v19 = v6 := by
      rw [← q19, o17 1 (by omega), u15 1 (by omega), u12 1 (by omega), u9 1 (by omega)]
      exact q6
    have a6 := i_addc (x := v19) (c := (1 : Int32)) (n := 1) rfl (by omega) (by omega)
    have h19 : v19.toInt ≤ 6 := by rw [e19]; omega
    refine h_s H17 f17.2.2 (k := 1) rfl (by decide) (h_in (lo := 0) (hi := 7) rfl (by omega)) (fun M20 H20 f20 _ _ => ?_)
    exact h_Q1 H20 (h_tr F17 f20)
theorem P_isHeirHere_L77 {n : Nat} (hn : n ≤ 6) {l2 : Int32} (h2 : l2.toInt = (n : Int)) : ∀ (m k : Nat) {l3 : Int32} {M : gM}, y_HT M → n_x M ≤ n_s M → (M.2.1 181 2).toInt = (n : Int) → l3.toInt = (k : Int) → k ≤ 7 → 7 - k < m → Ok (F_X12_isHeirHere_L77 m (some 175) l2 l3 M) (h_Q M) := by
  intro m
  induction m with
  | zero => intro k l3 M H hx h h3 h4 h5; omega
  | succ m ih =>
    intro k l3 M H hx h h3 h4 h5
    show Ok (F_X12_isHeirHere_b77 (F_X12_isHeirHere_L77 m) (some 175) l2 l3 M) _
    have z7 : (7 : Int32).toInt = 7 := rfl
    delta F_X12_isHeirHere_b77
    refine Ok_i (fun c => ?_) (fun c => ?_)
    · rw [e_gR H (w := 181) rfl (by decide), Option.bind_some]
      refine h_rd H (k := 2) rfl (by decide) rfl (fun v q r => ?_)
      rw [q] at h
      have a6 := i_addc (x := v) (c := (1 : Int32)) (n := 1) rfl (by omega) (by omega)
      refine h_s H hx (k := 2) rfl (by decide) (h_in (lo := 0) (hi := 7) rfl (by omega)) (fun M3 H3 f3 _ _ => ?_)
      exact h_Q1 H3 f3
    · have c' := i_nle c
      have a1 := i_mulL (c := (14 : Int32)) (x := l2) (n := 14) rfl (by omega) (by omega)
      have a2 := i_cadd (c := (59 : Int32)) (x := (14 : Int32) * l2) (n := 59) rfl (by omega) (by omega)
      have a3 := i_mulL (c := (2 : Int32)) (x := l3) (n := 2) rfl (by omega) (by omega)
      have a4 := i_add (x := (59 : Int32) + (14 : Int32) * l2) (y := (2 : Int32) * l3) (by omega) (by omega)
      have a5 := i_addc (x := ((59 : Int32) + (14 : Int32) * l2) + (2 : Int32) * l3) (c := (1 : Int32)) (n := 1) rfl (by omega) (by omega)
      rw [e_gR H (w := 181) rfl (by decide), Option.bind_some]
      refine h_s H hx (k := 59 + 14 * n + 2 * k) (by omega) (by omega) (h_tSf (h_tSn (by omega) (by omega) (by omega))) (fun M5 H5 f5 o5 _ => ?_)
      rw [e_gR H5 (w := 181) rfl (by decide), Option.bind_some]
      refine h_s H5 f5.2.2 (k := 59 + 14 * n + 2 * k + 1) (by omega) (by omega) (h_tSf (h_tSn (by omega) (by omega) (by omega))) (fun M7 H7 f7 o7 _ => ?_)
      refine h_Qw (h_tr f5 f7) (ih (k + 1) H7 f7.2.2 ?_ ?_ (by omega) (by omega))
      · rw [o7 2 (by omega), o5 2 (by omega)]
        exact h
      · rw [n_inc h3 (by omega), i_ofNat (by omega)]
theorem P_isHeirHere {M : gM} {l1 : Int32} {q : Nat} (H : y_HT M) (hx : n_x M ≤ n_s M) (hl : l1.toInt = (q : Int)) (hq : q ≤ 400) : Ok (F_X12_isHeirHere (some 175) l1 M) (h_Q M) := by
  delta F_X12_isHeirHere F_X12_isHeirHere_b0 F_X12_isHeirHere_b63
  have z7 : (7 : Int32).toInt = 7 := rfl
  have z0 : (0 : Int32).toInt = 0 := rfl
  have z99 : (99 : Int32).toInt = 99 := rfl
  rw [e_gR H (w := 181) rfl (by decide), Option.bind_some]
  refine h_rd H (k := 2) rfl (by decide) rfl (fun v2 q2 r2 => ?_)
  refine Ok_i (fun c => ?_) (fun c => ?_)
  · rw [e_gO H, Option.bind_some]
    refine h_fails H hl hq (by decide) (fun M' H' f' g' => ?_)
    dsimp only
    rw [if_pos (Or.inl rfl)]
    exact h_Q0 H' f' g'
  · have c' := i_ne c
    rw [e_gO H, Option.bind_some]
    refine h_pass H hx (fun M4 H4 f4 u4 => ?_)
    rw [e_gR H4 (w := 181) rfl (by decide), Option.bind_some]
    refine h_rd H4 (k := 2) rfl (by decide) rfl (fun v6 q6 r6 => ?_)
    have e6 : v6 = v2 := by
      rw [← q6, ← q2]
      exact congrFun u4 2
    obtain ⟨n, hn⟩ : ∃ n : Nat, v6.toInt = (n : Int) ∧ n ≤ 6 := ⟨v6.toInt.toNat, by omega, by rw [e6]; omega⟩
    have a1 := i_mulL (c := (2 : Int32)) (x := v6) (n := 2) rfl (by omega) (by omega)
    have a2 := i_cadd (c := (38 : Int32)) (x := (2 : Int32) * v6) (n := 38) rfl (by omega) (by omega)
    have a3 := i_addc (x := (38 : Int32) + (2 : Int32) * v6) (c := (1 : Int32)) (n := 1) rfl (by omega) (by omega)
    have a4 := i_cadd (c := (52 : Int32)) (x := v6) (n := 52) rfl (by omega) (by omega)
    rw [e_gC H4, Option.bind_some]
    refine h_cell H4 f4.2.2 (k := 38 + 2 * n) (by omega) (by omega) (fun v b1 b2 => h_in (h_tS38 (l := n) (by omega) rfl) (by omega)) (fun M9 H9 f9 g9 => ?_) (fun M9 H9 f9 u9 => ?_)
    · dsimp only
      rw [if_pos rfl]
      exact h_Q0 H9 (y_tr f4.1 f9) g9
    dsimp only
    rw [if_neg (by decide), e_gC H9, Option.bind_some]
    refine h_cell H9 f9.2.2 (k := 39 + 2 * n) (by omega) (by omega) (fun v _ _ => h_tSf (h_tSn (by omega) (by omega) (by omega))) (fun M12 H12 f12 g12 => ?_) (fun M12 H12 f12 u12 => ?_)
    · dsimp only
      rw [if_pos rfl]
      exact h_Q0 H12 (y_tr f4.1 (y_tr f9.1 f12)) g12
    dsimp only
    rw [if_neg (by decide), e_gR H12 (w := 181) rfl (by decide), Option.bind_some]
    refine h_s H12 f12.2.2 (k := 52 + n) (by omega) (by omega) (h_tSf (h_tSn (by omega) (by omega) (by omega))) (fun M14 H14 f14 o14 _ => ?_)
    refine h_Qw (h_tr f4 (h_tr f9 (h_tr f12 f14))) (P_isHeirHere_L77 hn.2 hn.1 _ 0 H14 f14.2.2 ?_ rfl (by omega) (n_fu (by omega)))
    rw [o14 2 (by omega), u12 2 (by omega), u9 2 (by omega), q6]
    exact hn.1
theorem P_isSongHere {M : gM} (H : y_HT M) (hx : n_x M ≤ n_s M) : Ok (F_X12_isSongHere (some 175) M) (h_Q M) := by
  delta F_X12_isSongHere F_X12_isSongHere_b0
  rw [e_gO H, Option.bind_some]
  refine h_pass H hx (fun M2 H2 f2 u2 => ?_)
  rw [e_gR H2 (w := 181) rfl (by decide), Option.bind_some]
  refine h_rd H2 (k := 1) rfl (by decide) rfl (fun v4 q4 r4 => ?_)
  rw [e_gC H2, Option.bind_some]
  refine h_num H2 f2.2.2 (fun M7 H7 f7 g7 => ?_) (fun M7 H7 f7 r7 u7 => ?_)
  · dsimp only
    rw [if_pos rfl]
    exact h_Q0 H7 (y_tr f2.1 f7) g7
  · dsimp only
    rw [if_neg (by decide), e_gR H7 (w := 181) rfl (by decide), Option.bind_some]
    refine h_rd H7 (k := 7) rfl (by decide) rfl (fun v9 _ _ => ?_)
    rw [e_gI H7, Option.bind_some]
    refine h_s H7 f7.2.2 (k := 7) rfl (by decide) (h_tSf rfl) (fun M11 H11 f11 _ _ => ?_)
    exact h_Q1 H11 (h_tr f2 (h_tr f7 f11))
theorem P_isHateHere {M : gM} (H : y_HT M) (hx : n_x M ≤ n_s M) : Ok (F_X12_isHateHere (some 175) M) (h_Q M) := by
  delta F_X12_isHateHere F_X12_isHateHere_b0
  rw [e_gO H, Option.bind_some]
  refine h_pass H hx (fun M2 H2 f2 u2 => ?_)
  rw [e_gR H2 (w := 181) rfl (by decide), Option.bind_some]
  refine h_rd H2 (k := 2) rfl (by decide) rfl (fun v4 q4 r4 => ?_)
  rw [e_gC H2, Option.bind_some]
  refine h_num H2 f2.2.2 (fun M7 H7 f7 g7 => ?_) (fun M7 H7 f7 r7 u7 => ?_)
  · dsimp only
    rw [if_pos rfl]
    exact h_Q0 H7 (y_tr f2.1 f7) g7
  · dsimp only
    rw [if_neg (by decide), e_gR H7 (w := 181) rfl (by decide), Option.bind_some]
    refine h_rd H7 (k := 6) rfl (by decide) rfl (fun v9 _ _ => ?_)
    rw [e_gI H7, Option.bind_some]
    refine h_s H7 f7.2.2 (k := 6) rfl (by decide) (h_tSf rfl) (fun M11 H11 f11 _ _ => ?_)
    exact h_Q1 H11 (h_tr f2 (h_tr f7 f11))
theorem P_areCousinsHere {M : gM} {l1 : Int32} {q : Nat} (H : y_HT M) (hx : n_x M ≤ n_s M) (hl : l1.toInt = (q : Int)) (hq : q ≤ 400) : Ok (F_X12_areCousinsHere (some 175) l1 M) (h_Q M) := by
  delta F_X12_areCousinsHere F_X12_areCousinsHere_b0 F_X12_areCousinsHere_b100
  have z0 : (0 : Int32).toInt = 0 := rfl
  rw [e_gR H (w := 181) rfl (by decide), Option.bind_some]
  refine h_rd H (k := 3) rfl (by decide) rfl (fun v2 q2 r2 => ?_)
  refine Ok_i (fun c => ?_) (fun c => ?_)
  · rw [e_gO H, Option.bind_some]
    refine h_fails H hl hq (by decide) (fun M' H' f' g' => ?_)
    dsimp only
    rw [if_pos (Or.inl rfl)]
    exact h_Q0 H' f' g'
  rw [e_gO H, Option.bind_some]
  refine h_pass H hx (fun M4 H4 f4 u4 => ?_)
  rw [e_gR H4 (w := 181) rfl (by decide), Option.bind_some]
  refine h_rd H4 (k := 2) rfl (by decide) rfl (fun v6 q6 r6 => ?_)
  have b6 := i_subc (x := v6) (c := (1 : Int32)) (n := 1) rfl (by omega) (by omega)
  rw [e_gC H4, Option.bind_some]
  refine h_num H4 f4.2.2 (fun M9 H9 f9 g9 => ?_) (fun M9 H9 f9 r9 u9 => ?_)
  · dsimp only
    rw [if_pos rfl]
    exact h_Q0 H9 (y_tr f4.1 f9) g9
  dsimp only
  rw [if_neg (by decide), e_gI H9, Option.bind_some, e_gC H9, Option.bind_some]
  obtain ⟨v10, e10⟩ : ∃ v, v = M9.2.1 175 10 := ⟨_, rfl⟩
  rw [← e10] at r9 ⊢
  have F9 := h_tr f4 f9
  refine h_see H9 f9.2.2 (fun M13 H13 f13 e13 => ?_)
  dsimp only
  have F13 := h_tr F9 f13
  have x13 := n_x1 H13
  rw [e_gI H13, Option.bind_some, e_gR H13 (w := 181) rfl (by decide), Option.bind_some]
  refine h_rd H13 (k := 2) rfl (by decide) rfl (fun v16 q16 r16 => ?_)
  have b16 := i_subc (x := v16) (c := (1 : Int32)) (n := 1) rfl (by omega) (by omega)
  rw [e_gC H13, Option.bind_some]
  refine h_num H13 f13.2.2 (fun M19 H19 f19 g19 => ?_) (fun M19 H19 f19 r19 u19 => ?_)
  · dsimp only
    rw [if_pos rfl]
    exact h_Q0 H19 (y_tr F13.1 f19) g19
  dsimp only
  have F19 := h_tr F13 f19
  have bad : Ok ((gO 12 M19 (some 175)).bind fun i1 => (F_X12_fails (some i1) (1 : Int32) (M13.2.1 175 8) M19).bind fun (v2, M3) => if v2 = 0 ∨ v2 = 1 then some (v2, M3) else none) (h_Q M) := by
    rw [e_gO H19, Option.bind_some]
    refine h_fails H19 x13.1 x13.2 (by decide) (fun M' H' f' g' => ?_)
    dsimp only
    rw [if_pos (Or.inl rfl)]
    exact h_Q0 H' (y_tr F19.1 f') g'
  rw [if_neg (by decide), e_gI H19, Option.bind_some]
  obtain ⟨n, hn⟩ : ∃ n : Nat, v10.toInt = (n : Int) ∧ n ≤ 6 := ⟨v10.toInt.toNat, by omega, by omega⟩
  have a4 := i_cadd (c := (52 : Int32)) (x := v10) (n := 52) rfl (by omega) (by omega)
  refine Ok_i (fun _ => bad) (fun _ => ?_)
  rw [e_gR H19 (w := 181) rfl (by decide), Option.bind_some]
  refine h_rd H19 (k := 52 + n) (by omega) (by omega) (h_tSn (by omega) (by omega) (by omega)) (fun v22 _ _ => ?_)
  rw [Option.bind_some]
  refine Ok_b (S_X12_isOf H19) (fun v24 _ => ?_)
  refine Ok_i (fun _ => ?_) (fun _ => bad)
  rw [Option.bind_some]
  refine h_rd H19 (k := 52 + n) (by omega) (by omega) (h_tSn (by omega) (by omega) (by omega)) (fun v26 _ _ => ?_)
  rw [Option.bind_some]
  refine h_s H19 f19.2.2 (k := 52 + n) (by omega) (by omega) (h_tSf (h_tSn (by omega) (by omega) (by omega))) (fun M28 H28 f28 o28 t28 => ?_)
  rw [e_gR H28 (w := 181) rfl (by decide), Option.bind_some, e_gI H28, Option.bind_some, t28]
  obtain ⟨v30, e30⟩ : ∃ v, v = M19.2.1 175 10 := ⟨_, rfl⟩
  rw [← e30] at r19 ⊢
  obtain ⟨m, hm⟩ : ∃ m : Nat, v30.toInt = (m : Int) ∧ m ≤ 6 := ⟨v30.toInt.toNat, by omega, by omega⟩
  have a5 := i_cadd (c := (52 : Int32)) (x := v30) (n := 52) rfl (by omega) (by omega)
  refine h_rd H28 (k := 52 + m) (by omega) (by omega) (h_tSn (by omega) (by omega) (by omega)) (fun v31 _ _ => ?_)
  refine h_s H28 f28.2.2 (k := 52 + m) (by omega) (by omega) (h_tSf (h_tSn (by omega) (by omega) (by omega))) (fun M32 H32 f32 o32 _ => ?_)
  rw [e_gR H32 (w := 181) rfl (by decide), Option.bind_some]
  refine h_rd H32 (k := 3) rfl (by decide) rfl (fun v34 _ _ => ?_)
  refine h_s H32 f32.2.2 (k := 3) rfl (by decide) (h_tSf rfl) (fun M35 H35 f35 _ _ => ?_)
  exact h_Q1 H35 (h_tr F19 (h_tr f28 (h_tr f32 f35)))
theorem P_isKnownHere {M : gM} (H : y_HT M) (hx : n_x M ≤ n_s M) : Ok (F_X12_isKnownHere (some 175) M) (h_Q M) := by
  delta F_X12_isKnownHere F_X12_isKnownHere_b0 F_X12_isKnownHere_b88
  have z0 : (0 : Int32).toInt = 0 := rfl
  rw [e_gO H, Option.bind_some]
  refine h_pass H hx (fun M2 H2 f2 u2 => ?_)
  rw [e_gR H2 (w := 181) rfl (by decide), Option.bind_some]
  refine h_rd H2 (k := 2) rfl (by decide) rfl (fun v4 q4 r4 => ?_)
  have b4 := i_subc (x := v4) (c := (1 : Int32)) (n := 1) rfl (by omega) (by omega)
  rw [e_gC H2, Option.bind_some]
  refine h_num H2 f2.2.2 (fun M7 H7 f7 g7 => ?_) (fun M7 H7 f7 r7 u7 => ?_)
  · dsimp only
    rw [if_pos rfl]
    exact h_Q0 H7 (y_tr f2.1 f7) g7
  dsimp only
  rw [if_neg (by decide), e_gI H7, Option.bind_some, e_gR H7 (w := 181) rfl (by decide), Option.bind_some]
  obtain ⟨v8, e8⟩ : ∃ v, v = M7.2.1 175 10 := ⟨_, rfl⟩
  rw [← e8] at r7 ⊢
  refine h_rd H7 (k := 1) rfl (by decide) rfl (fun v10 q10 r10 => ?_)
  have b10 := i_subc (x := v10) (c := (1 : Int32)) (n := 1) rfl (by omega) (by omega)
  rw [e_gC H7, Option.bind_some]
  have F7 := h_tr f2 f7
  refine h_num H7 f7.2.2 (fun M13 H13 f13 g13 => ?_) (fun M13 H13 f13 r13 u13 => ?_)
  · dsimp only
    rw [if_pos rfl]
    exact h_Q0 H13 (y_tr F7.1 f13) g13
  dsimp only
  have F13 := h_tr F7 f13
  rw [if_neg (by decide), e_gI H13, Option.bind_some, e_gC H13, Option.bind_some]
  obtain ⟨v14, e14⟩ : ∃ v, v = M13.2.1 175 10 := ⟨_, rfl⟩
  rw [← e14] at r13 ⊢
  obtain ⟨n, hn⟩ : ∃ n : Nat, v8.toInt = (n : Int) ∧ n ≤ 6 := ⟨v8.toInt.toNat, by omega, by omega⟩
  obtain ⟨m, hm⟩ : ∃ m : Nat, v14.toInt = (m : Int) ∧ m ≤ 6 := ⟨v14.toInt.toNat, by omega, by omega⟩
  have a1 := i_mulL (c := (14 : Int32)) (x := v8) (n := 14) rfl (by omega) (by omega)
  have a2 := i_cadd (c := (59 : Int32)) (x := (14 : Int32) * v8) (n := 59) rfl (by omega) (by omega)
  have a3 := i_mulL (c := (2 : Int32)) (x := v14) (n := 2) rfl (by omega) (by omega)
  have a4 := i_add (x := (59 : Int32) + (14 : Int32) * v8) (y := (2 : Int32) * v14) (by omega) (by omega)
  have a5 := i_addc (x := ((59 : Int32) + (14 : Int32) * v8) + (2 : Int32) * v14) (c := (1 : Int32)) (n := 1) rfl (by omega) (by omega)
  refine h_cell H13 f13.2.2 (k := 59 + 14 * n + 2 * m) (by omega) (by omega) (fun v _ _ => h_tSf (h_tSn (by omega) (by omega) (by omega))) (fun M17 H17 f17 g17 => ?_) (fun M17 H17 f17 u17 => ?_)
  · dsimp only
    rw [if_pos rfl]
    exact h_Q0 H17 (y_tr F13.1 f17) g17
  dsimp only
  have F17 := h_tr F13 f17
  rw [if_neg (by decide), e_gC H17, Option.bind_some]
  refine h_cell H17 f17.2.2 (k := 59 + 14 * n + 2 * m + 1) (by omega) (by omega) (fun v _ _ => h_tSf (h_tSn (by omega) (by omega) (by omega))) (fun M20 H20 f20 g20 => ?_) (fun M20 H20 f20 u20 => ?_)
  · dsimp only
    rw [if_pos rfl]
    exact h_Q0 H20 (y_tr F17.1 f20) g20
  · dsimp only
    rw [if_neg (by decide)]
    exact h_Q1 H20 (h_tr F17 f20)
theorem P_houseLineHere {M : gM} {l1 : Int32} {q : Nat} (H : y_HT M) (hx : n_x M ≤ n_s M) (hl : l1.toInt = (q : Int)) (hq : q ≤ 400) : Ok (F_X12_houseLineHere (some 175) l1 M) (h_Q M) := by
  delta F_X12_houseLineHere F_X12_houseLineHere_b0
  rw [e_gO H, Option.bind_some]
  refine h_word H hx (fun v2 M3 w2 H3 f3 => ?_)
  dsimp only
  refine Ok_i (fun _ => ?_) (fun _ => ?_)
  · rw [e_gR H3 (w := 181) rfl (by decide), Option.bind_some]
    refine h_rd H3 (k := 0) rfl (by decide) rfl (fun v5 _ _ => ?_)
    refine Ok_i (fun _ => ?_) (fun _ => ?_)
    · rw [e_gC H3, Option.bind_some]
      refine h_fails H3 hl hq (by decide) (fun M' H' f' g' => ?_)
      dsimp only
      rw [if_pos (Or.inl rfl)]
      exact h_Q0 H' (y_tr f3.1 f') g'
    rw [e_gC H3, Option.bind_some]
    refine h_word H3 f3.2.2 (fun v7 M8 w8 H8 f8 => ?_)
    have F8 := h_tr f3 f8
    dsimp only
    refine Ok_i (fun _ => ?_) (fun _ => ?_)
    · rw [e_gC H8, Option.bind_some]
      refine h_word H8 f8.2.2 (fun v10 M11 w11 H11 f11 => ?_)
      have F11 := h_tr F8 f11
      dsimp only
      refine Ok_i (fun _ => ?_) (fun _ => ?_)
      · rw [e_gC H11, Option.bind_some]
        refine h_word H11 f11.2.2 (fun v13 M14 w14 H14 f14 => ?_)
        have F14 := h_tr F11 f14
        dsimp only
        refine Ok_i (fun _ => ?_) (fun _ => ?_)
        · rw [e_gC H14, Option.bind_some]
          refine h_word H14 f14.2.2 (fun v16 M17 w17 H17 f17 => ?_)
          have F17 := h_tr F14 f17
          dsimp only
          refine Ok_i (fun _ => ?_) (fun _ => ?_)
          · rw [e_gC H17, Option.bind_some]
            refine h_word H17 f17.2.2 (fun v19 M20 w20 H20 f20 => ?_)
            have F20 := h_tr F17 f20
            dsimp only
            refine Ok_i (fun _ => ?_) (fun _ => ?_)
            · rw [e_gC H20, Option.bind_some]
              exact h_end F20 (P_isKnownHere H20 f20.2.2)
            · rw [e_gC H20, Option.bind_some]
              exact h_end F20 (P_areCousinsHere H20 f20.2.2 hl hq)
          · rw [e_gC H17, Option.bind_some]
            exact h_end F17 (P_isHateHere H17 f17.2.2)
        · rw [e_gC H14, Option.bind_some]
          exact h_end F14 (P_isSongHere H14 f14.2.2)
      · rw [e_gC H11, Option.bind_some]
        exact h_end F11 (P_isHeirHere H11 f11.2.2 hl hq)
    · rw [e_gC H8, Option.bind_some]
      exact h_end F8 (P_isThingHere H8 f8.2.2 hl hq)
  · rw [e_gC H3, Option.bind_some]
    exact h_end f3 (P_isHouseHere H3 f3.2.2 hl hq)
/-- is it a house's word -/
theorem P_isHouseWord {M : gM} (H : y_HT M) (hx : n_x M ≤ n_s M) : Ok (F_X12_isHouseWord (some 175) M) (fun r => (r.1 = 0 ∨ r.1 = 1) ∧ y_HT r.2 ∧ h_F M r.2) := by
  have rf : h_F M M := ⟨y_rf0 _ _, Nat.le_refl _, hx⟩
  have b45 : ∀ {s : Int32} {M1 : gM}, y_HT M1 → h_F M M1 → Ok (F_X12_isHouseWord_b45 (some 175) s M1) (fun r => (r.1 = 0 ∨ r.1 = 1) ∧ y_HT r.2 ∧ h_F M r.2) := by
    intro s M1 H1 f1
    delta F_X12_isHouseWord_b45 F_X12_isHouseWord_b80
    refine Ok_i (fun _ => ?_) (fun _ => Ok_s ⟨Or.inr rfl, H1, f1⟩)
    rw [e_gO H1, Option.bind_some]
    refine h_word H1 f1.2.2 (fun v2 M3 w3 H3 f3 => ?_)
    have F3 := h_tr f1 f3
    dsimp only
    refine Ok_i (fun _ => ?_) (fun _ => Ok_s ⟨Or.inr rfl, H3, F3⟩)
    rw [e_gC H3, Option.bind_some]
    refine h_word H3 f3.2.2 (fun v5 M6 w6 H6 f6 => ?_)
    have F6 := h_tr F3 f6
    dsimp only
    refine Ok_i (fun _ => ?_) (fun _ => Ok_s ⟨Or.inr rfl, H6, F6⟩)
    rw [e_gC H6, Option.bind_some]
    refine h_word H6 f6.2.2 (fun v8 M9 w9 H9 f9 => ?_)
    have F9 := h_tr F6 f9
    dsimp only
    exact Ok_i (fun _ => Ok_s ⟨Or.inl rfl, H9, F9⟩) (fun _ => Ok_s ⟨Or.inr rfl, H9, F9⟩)
  delta F_X12_isHouseWord F_X12_isHouseWord_b0 F_X12_isHouseWord_b40
  rw [e_gO H, Option.bind_some]
  refine h_word H hx (fun v2 M3 w3 H3 f3 => ?_)
  dsimp only
  refine Ok_i (fun _ => ?_) (fun _ => b45 H3 f3)
  rw [e_gC H3, Option.bind_some]
  refine h_word H3 f3.2.2 (fun v5 M6 w6 H6 f6 => ?_)
  have F6 := h_tr f3 f6
  dsimp only
  refine Ok_i (fun _ => ?_) (fun _ => b45 H6 F6)
  rw [e_gC H6, Option.bind_some]
  refine h_word H6 f6.2.2 (fun v8 M9 w9 H9 f9 => ?_)
  have F9 := h_tr F6 f9
  dsimp only
  refine Ok_i (fun _ => ?_) (fun _ => b45 H9 F9)
  rw [e_gC H9, Option.bind_some]
  refine h_word H9 f9.2.2 (fun v11 M12 w12 H12 f12 => ?_)
  have F12 := h_tr F9 f12
  dsimp only
  exact Ok_i (fun _ => b45 H12 F12) (fun _ => b45 H12 F12)
-- 59.rule
/-! clauses, the whole text, rule and house -/
theorem n_c9 {M : gM} {p : Nat} : n_cc (n_at M p) = n_cc M := by
  funext t
  unfold n_cc
  rw [n_ata (by decide)]
theorem p_K_of {S t c : Nat} {M M' : gM} (K : p_K t c M) (H : y_HT M') (f : y_Fr S M M') (h1 : Nat.land S (2 ^ 1 + 2 ^ 11 + 2 ^ 42 + 2 ^ 43 + 2 ^ 44 + 2 ^ 45) = 0) (hx : n_l M t ≤ n_x M' ∧ n_x M' ≤ n_s M) : p_K t c M' := by
  obtain ⟨⟨⟨_, ht⟩, e11⟩, _, hcc, C⟩ := K
  have l9 := n_fl (t := t) f (y_dis h1 (by decide))
  refine ⟨⟨⟨H, ht⟩, by rw [y_fk (i := 175) (k := 11) f (y_dis h1 (by decide))]; exact e11⟩, ⟨by rw [l9]; exact hx.1, by rw [n_fs f (y_dis h1 (by decide))]; exact hx.2⟩, ?_, fun k hk => ?_⟩
  · unfold n_cc
    rw [y_fa (i := 180) f (by decide) (y_dis h1 (by decide)) t]
    exact hcc
  · exact p_cl_mo (C k hk) (by omega) (fun j _ => y_fa (i := 177) f (by decide) (y_dis h1 (by decide)) j) (fun j _ => y_fa (i := 179) f (by decide) (y_dis h1 (by decide)) _)
abbrev p_B : Nat := p_A + 2 ^ 14
/-- clauses of the rule t, and as many lines -/
def p_N (t c : Nat) (M : gM) : Prop := p_K t c M ∧ (M.2.1 175 14).toInt = (c : Int) ∧ c ≤ 12
def p_M (t : Nat) (M : gM) : Int32 × gM → Prop := fun r => (y_HT r.2 ∧ p_G p_B t M r.2) ∧ ((r.1 = 0 ∧ r.2.2.1 175 9 ≠ 0) ∨ (r.1 = 1 ∧ (∃ c, p_N t c r.2) ∧ n_x M ≤ n_x r.2))
theorem P_clauseHere {t c : Nat} {M : gM} (N : p_N t c M) : Ok (F_X12_clauseHere (some 175) M) (p_M t M) := by
  obtain ⟨K, hl, hc⟩ := N
  have H := K.1.1.1
  have ht := K.1.1.2
  have hx := K.2.1
  have s1 := n_s1 H
  have k1 := n_sk_le hx.2
  obtain ⟨p, hp⟩ : ∃ p, p = n_sk M (n_x M) := ⟨_, rfl⟩
  rw [← hp] at k1
  obtain ⟨H3, f3⟩ := n_at_set (p := p) H (by omega)
  have x3 : n_x (n_at M p) = p := n_at_x (by omega)
  have s3 : n_s (n_at M p) = n_s M := n_at_s
  have K3 : p_K t c (n_at M p) := p_K_of K H3 f3 (by decide) (by omega)
  have G3 : p_G p_B t M (n_at M p) := p_G_of f3 (by decide) (by decide)
  have v4 : (n_at M p).2.1 175 8 = Int32.ofNat p := n_at8
  have xi : (Int32.ofNat p).toInt = (p : Int) := i_ofNat (by omega)
  have v14 : (n_at M p).2.1 175 14 = M.2.1 175 14 := n_atk (by decide)
  have e11 := K3.1.2
  delta F_X12_clauseHere F_X12_clauseHere_b0
  rw [e_gO H, Option.bind_some, R_see H hx.2, ← hp, Option.bind_some]
  dsimp only
  rw [e_gI H3, Option.bind_some, e_gI H3, Option.bind_some, v4]
  have z6 : (6 : Int32).toInt = 6 := rfl
  refine Ok_e (fun e => by have := i_eq e; omega) ?_
  delta F_X12_clauseHere_b24
  rw [if_pos rfl, e_gO H3, Option.bind_some, R_isW2 H hx.2 hp, Option.bind_some]
  dsimp only
  generalize n_at M p = M3 at H3 x3 s3 K3 G3 v14 e11 ⊢
  have bad : ∀ {k : Int32}, (0 ≤ k.toInt ∧ k.toInt ≤ 4) → Ok ((F_X12_fails (some 175) k (Int32.ofNat p) M3).bind fun (v2, M4) => if v2 = 0 ∨ v2 = 1 then some (v2, M4) else none) (p_M t M) := by
    intro k hk
    rw [R_fails H3, Option.bind_some]
    dsimp only
    rw [if_pos (Or.inl rfl)]
    obtain ⟨H9, f9⟩ := n_f_set (k := k) (p := Int32.ofNat p) H3
    exact Ok_s ⟨⟨H9, p_G_tr G3 (p_G_of f9 (by decide) (by decide))⟩, Or.inl ⟨rfl, n_f9 xi (by omega) hk⟩⟩
  refine Ok_i (fun _ => ?_) (fun _ => ?_)
  · delta F_X12_clauseHere_b49
    rw [e_gO H3, Option.bind_some]
    exact bad (by decide)
  · delta F_X12_clauseHere_b56 F_X12_clauseHere_b71
    rw [e_gI H3, Option.bind_some, if_pos rfl]
    have z12 : (12 : Int32).toInt = 12 := rfl
    refine Ok_i (fun _ => ?_) (fun e => ?_)
    · rw [e_gO H3, Option.bind_some]
      exact bad (by decide)
    · have e' := i_ne e
      have hl3 : (M3.2.1 175 14).toInt = (c : Int) := by rw [v14]; exact hl
      rw [Option.bind_some, e_pI H3, Option.bind_some, n_inc hl3 (by omega)]
      obtain ⟨H2, f2⟩ := y_set (M' := mI M3 175 14 (Int32.ofNat (c + 1))) (S := 2 ^ 14) H3 (i := 175) (k := 14) (by decide) rfl rfl y_mI1 (fun j a hj => y_mI2 hj) rfl (y_full rfl) (by decide)
      have w14 : (mI M3 175 14 (Int32.ofNat (c + 1))).2.1 175 14 = Int32.ofNat (c + 1) := y_mI1
      generalize mI M3 175 14 (Int32.ofNat (c + 1)) = M2 at H2 f2 w14 ⊢
      have x2 := n_fx f2 (by decide)
      have K2 : p_K t c M2 := p_K_of K3 H2 f2 (by decide) (by rw [x2]; exact K3.2.1)
      rw [if_pos rfl, e_gO H2, Option.bind_some]
      refine Ok_b (P_isFadeHere K2 (by omega)) (fun y z => ?_)
      obtain ⟨v, M5⟩ := y
      have hG : p_G p_B t M M5 := p_G_tr G3 (p_G_tr (p_G_of f2 (by decide) (by decide)) (p_G_fl (by decide) z.1.2))
      refine Ok_t ?_ (Ok_s ⟨⟨z.1.1, hG⟩, ?_⟩)
      · rcases z.2 with z | z
        · exact Or.inl z.1
        · exact Or.inr z.1
      · rcases z.2 with z2 | z2
        · exact Or.inl z2
        · refine Or.inr ⟨z2.1, ⟨c + 1, z2.2.1, ?_, by omega⟩, by have := z2.2.2; dsimp only at this ⊢; omega⟩
          show (M5.2.1 175 14).toInt = _
          rw [y_fk (i := 175) (k := 14) z.1.2.1 (by decide), w14, i_ofNat (by omega)]
abbrev p_C : Nat := p_B + 2 ^ 1
def p_Z (t : Nat) (M : gM) : Int32 × gM → Prop := fun r => (y_HT r.2 ∧ p_G p_C t M r.2) ∧ (r.1 = 0 ∨ (r.1 = 1 ∧ ∀ k, k < n_cc r.2 t → y_cl r.2 t (48 * t + 4 * k)))
theorem P_rd_b88 {t : Nat} {M M0 : gM} (H : y_HT M) (G : p_G p_C t M0 M) (h : M.2.1 175 9 ≠ 0 ∨ ∀ k, k < n_cc M t → y_cl M t (48 * t + 4 * k)) : Ok (F_X12_readsAll_b88 (some 175) M) (p_Z t M0) := by
  delta F_X12_readsAll_b88
  rw [e_pI H, Option.bind_some]
  obtain ⟨H1, f1⟩ := y_set (M' := mI M 175 1 (0 : Int32)) (S := 2 ^ 1) H (i := 175) (k := 1) (by decide) rfl rfl y_mI1 (fun j a hj => y_mI2 hj) rfl (y_in (lo := 0) (hi := 400) rfl (by decide)) (by decide)
  have w9 := y_fk (i := 175) (k := 9) f1 (by decide)
  have cc : n_cc (mI M 175 1 (0 : Int32)) t = n_cc M t := by
    unfold n_cc
    rw [y_fa (i := 180) f1 (by decide) (by decide) t]
  have a177 : ∀ j, (mI M 175 1 (0 : Int32)).2.1 177 j = M.2.1 177 j := fun j => y_fa (i := 177) f1 (by decide) (by decide) j
  have a179 : ∀ j, (mI M 175 1 (0 : Int32)).2.1 179 j = M.2.1 179 j := fun j => y_fa (i := 179) f1 (by decide) (by decide) j
  have sn := y_snf f1 (by decide) t
  have G1 : p_G p_C t M0 (mI M 175 1 (0 : Int32)) := p_G_tr G (p_G_of f1 (by decide) (by decide))
  generalize mI M 175 1 (0 : Int32) = M1 at H1 w9 cc a177 a179 sn G1 ⊢
  rw [e_gI H1, Option.bind_some, w9]
  refine Ok_i (fun e => Ok_s ⟨⟨H1, G1⟩, Or.inr ⟨rfl, fun k hk => ?_⟩⟩) (fun _ => Ok_s ⟨⟨H1, G1⟩, Or.inl rfl⟩)
  rcases h with h | h
  · exact absurd e h
  · have := h k (by rw [← cc]; exact hk)
    unfold y_cl at this ⊢
    dsimp only
    rw [a179, a179, a179, a179, sn]
    exact this
theorem p_K_cl {t c : Nat} {M : gM} (K : p_K t c M) : ∀ k, k < n_cc M t → y_cl M t (48 * t + 4 * k) := fun k hk => (K.2.2.2 k (by rw [← K.2.2.1]; exact hk)).1
theorem P_rd_b66 {t : Nat} {l1 : Int32} {M M0 : gM} (H : y_HT M) (G : p_G p_C t M0 M) (h : (l1 = 0 ∧ M.2.1 175 9 ≠ 0) ∨ (l1 = 1 ∧ ∃ c, p_N t c M)) : Ok (F_X12_readsAll_b66 (some 175) l1 M) (p_Z t M0) := by
  delta F_X12_readsAll_b66
  rcases h with ⟨h, h2⟩ | ⟨h, c, N⟩
  · rw [if_pos h]
    exact P_rd_b88 H G (Or.inl h2)
  · have hx := N.1.2.1
    have s1 := n_s1 H
    have k1 := n_sk_le hx.2
    obtain ⟨H3, f3⟩ := n_at_set (p := n_sk M (n_x M)) H (by omega)
    have K3 : p_K t c (n_at M (n_sk M (n_x M))) := p_K_of N.1 H3 f3 (by decide) (by rw [n_at_x (by omega)]; omega)
    have G3 : p_G p_C t M0 (n_at M (n_sk M (n_x M))) := p_G_tr G (p_G_of f3 (by decide) (by decide))
    have xi : (Int32.ofNat (n_sk M (n_x M))).toInt = ((n_sk M (n_x M) : Nat) : Int) := i_ofNat (by omega)
    rw [if_neg (by rw [h]; decide), e_gO H, Option.bind_some, R_see H hx.2, Option.bind_some]
    dsimp only
    refine Ok_i (fun _ => P_rd_b88 H3 G3 (Or.inr (p_K_cl K3))) (fun _ => ?_)
    rw [e_gI H3, Option.bind_some, n_at8, e_gC H3, Option.bind_some, R_fails H3, Option.bind_some]
    dsimp only
    obtain ⟨H9, f9⟩ := n_f_set (k := 0) (p := Int32.ofNat (n_sk M (n_x M))) H3
    exact P_rd_b88 H9 (p_G_tr G3 (p_G_of f9 (by decide) (by decide))) (Or.inl (n_f9 xi (by omega) (by decide)))
theorem P_rd_L35 {t : Nat} {M0 : gM} : ∀ (n : Nat) {l1 : Int32} {M : gM}, y_HT M → p_G p_C t M0 M → ((l1 = 0 ∧ M.2.1 175 9 ≠ 0) ∨ (l1 = 1 ∧ ∃ c, p_N t c M)) → (l1 = 0 → 1 ≤ n) → (l1 ≠ 0 → n_s M - n_x M < n) → Ok (F_X12_readsAll_L35 n (some 175) l1 M) (p_Z t M0) := by
  intro n
  induction n with
  | zero =>
    intro l1 M H G h a1 a2
    exfalso
    by_cases e : l1 = 0
    · have := a1 e
      omega
    · have := a2 e
      omega
  | succ n ih =>
    intro l1 M H G h a1 a2
    show Ok (F_X12_readsAll_b35 (F_X12_readsAll_L35 n) (some 175) l1 M) _
    delta F_X12_readsAll_b35
    rcases h with ⟨h, h2⟩ | ⟨h, c, N⟩
    · rw [if_pos h]
      exact P_rd_b66 H G (Or.inl ⟨h, h2⟩)
    · have hx := N.1.2.1
      have s1 := n_s1 H
      have a3 := a2 (by rw [h]; decide)
      have k1 := n_sk_le hx.2
      obtain ⟨p, hp⟩ : ∃ p, p = n_sk M (n_x M) := ⟨_, rfl⟩
      rw [← hp] at k1
      obtain ⟨H3, f3⟩ := n_at_set (p := p) H (by omega)
      have x3 : n_x (n_at M p) = p := n_at_x (by omega)
      have s3 : n_s (n_at M p) = n_s M := n_at_s
      have N3 : p_N t c (n_at M p) := ⟨p_K_of N.1 H3 f3 (by decide) (by rw [x3]; omega), by rw [n_atk (by decide)]; exact N.2.1, N.2.2⟩
      have G3 : p_G p_C t M0 (n_at M p) := p_G_tr G (p_G_of f3 (by decide) (by decide))
      rw [if_neg (by rw [h]; decide), e_gO H, Option.bind_some, R_see H hx.2, ← hp, Option.bind_some]
      dsimp only
      refine Ok_i (fun e => ?_) (fun _ => P_rd_b66 H3 G3 (Or.inr ⟨h, c, N3⟩))
      have hlt := n_c_lt e (by decide)
      generalize n_at M p = M3 at H3 x3 s3 N3 G3 ⊢
      rw [e_gI H3, Option.bind_some, e_pI H3, Option.bind_some, n_next H3]
      have h9 := N3.1.2.1
      obtain ⟨H5, f5⟩ := n_at_set (p := n_x M3 + 1) H3 (by omega)
      have x5 : n_x (n_at M3 (n_x M3 + 1)) = n_x M3 + 1 := n_at_x (by omega)
      have s5 : n_s (n_at M3 (n_x M3 + 1)) = n_s M3 := n_at_s
      have N5 : p_N t c (n_at M3 (n_x M3 + 1)) := ⟨p_K_of N3.1 H5 f5 (by decide) (by rw [x5]; omega), by rw [n_atk (by decide)]; exact N3.2.1, N3.2.2⟩
      have G5 : p_G p_C t M0 (n_at M3 (n_x M3 + 1)) := p_G_tr G3 (p_G_of f5 (by decide) (by decide))
      generalize n_at M3 (n_x M3 + 1) = M5 at H5 x5 s5 N5 G5 ⊢
      rw [e_gC H5, Option.bind_some]
      refine Ok_b (P_clauseHere N5) (fun y z => ?_)
      obtain ⟨v7, M8⟩ := y
      obtain ⟨⟨H8, G8⟩, z⟩ := z
      have s8 := n_fs G8.1 (by decide)
      dsimp only at H8 G8 z s8 ⊢
      refine ih H8 (p_G_tr G5 (p_G_fl (by decide) G8)) (z.imp id (fun w => ⟨w.1, w.2.1⟩)) (fun _ => by omega) (fun hne => ?_)
      rcases z with z | ⟨_, ⟨c2, N8⟩, z3⟩
      · exact absurd z.1 hne
      · have := N8.1.2.1.2
        omega
/-- the bytes are read as the rule t -/
theorem P_readsAllR {t : Nat} {M : gM} (H : y_HT M) (ht : t ≤ 5) (e11 : (M.2.1 175 11).toInt = (t : Int)) (hc : n_cc M t = 0) : Ok (F_X12_readsAll (some 175) M) (p_Z t M) := by
  delta F_X12_readsAll F_X12_readsAll_b0
  have ct : (M.2.1 175 11).toNatClampNeg = t := i_cl e11
  rw [e_gR H (w := 178) rfl (by decide), Option.bind_some, e_gI H, Option.bind_some, e_sI H (i := 178) (n := 7) rfl (by omega) (by omega), Option.bind_some, ct]
  obtain ⟨H3, f3⟩ := y_set (M' := mI M 178 t (0 : Int32)) (S := p_C) H (i := 178) (k := t) (by decide) rfl rfl y_mI1 (fun j a hj => y_mI2 hj) rfl (y_in (lo := 0) (hi := 400) rfl (by decide)) (show Nat.testBit p_C 43 = true by decide)
  have l3 : (mI M 178 t (0 : Int32)).2.1 178 t = 0 := y_mI1
  have r3 : ∀ i k, i ≠ 178 → (mI M 178 t (0 : Int32)).2.1 i k = M.2.1 i k := fun i k h => mI_ne (Or.inl h)
  generalize mI M 178 t (0 : Int32) = M3 at H3 f3 l3 r3 ⊢
  rw [e_pI H3, Option.bind_some]
  obtain ⟨H4, f4⟩ := y_set (M' := mI M3 175 14 (0 : Int32)) (S := p_C) H3 (i := 175) (k := 14) (by decide) rfl rfl y_mI1 (fun j a hj => y_mI2 hj) rfl (y_full rfl) (by decide)
  have w4 : (mI M3 175 14 (0 : Int32)).2.1 175 14 = 0 := y_mI1
  have r4 : ∀ i k, i ≠ 175 ∨ k ≠ 14 → (mI M3 175 14 (0 : Int32)).2.1 i k = M3.2.1 i k := fun i k h => mI_ne h
  generalize mI M3 175 14 (0 : Int32) = M4 at H4 f4 w4 r4 ⊢
  rw [e_pI H4, Option.bind_some]
  obtain ⟨H5, f5⟩ := y_set (M' := mI M4 175 8 (0 : Int32)) (S := p_C) H4 (i := 175) (k := 8) (by decide) rfl rfl y_mI1 (fun j a hj => y_mI2 hj) rfl (y_in (lo := 0) (hi := 400) rfl (by decide)) (by decide)
  have w5 : (mI M4 175 8 (0 : Int32)).2.1 175 8 = 0 := y_mI1
  have r5 : ∀ i k, i ≠ 175 ∨ k ≠ 8 → (mI M4 175 8 (0 : Int32)).2.1 i k = M4.2.1 i k := fun i k h => mI_ne h
  generalize mI M4 175 8 (0 : Int32) = M5 at H5 f5 w5 r5 ⊢
  rw [e_pI H5, Option.bind_some]
  obtain ⟨H6, f6⟩ := y_set (M' := mI M5 175 9 (0 : Int32)) (S := p_C) H5 (i := 175) (k := 9) (by decide) rfl rfl y_mI1 (fun j a hj => y_mI2 hj) rfl (y_full rfl) (by decide)
  have r6 : ∀ i k, i ≠ 175 ∨ k ≠ 9 → (mI M5 175 9 (0 : Int32)).2.1 i k = M5.2.1 i k := fun i k h => mI_ne h
  generalize mI M5 175 9 (0 : Int32) = M6 at H6 f6 r6 ⊢
  rw [e_pI H6, Option.bind_some]
  obtain ⟨H7, f7⟩ := y_set (M' := mI M6 175 12 (0 : Int32)) (S := p_C) H6 (i := 175) (k := 12) (by decide) rfl rfl y_mI1 (fun j a hj => y_mI2 hj) rfl (y_in (lo := 0) (hi := 60) rfl (by decide)) (by decide)
  have r7 : ∀ i k, i ≠ 175 ∨ k ≠ 12 → (mI M6 175 12 (0 : Int32)).2.1 i k = M6.2.1 i k := fun i k h => mI_ne h
  generalize mI M6 175 12 (0 : Int32) = M7 at H7 f7 r7 ⊢
  have e : ∀ i, i ≠ 175 → i ≠ 178 → ∀ k, M7.2.1 i k = M.2.1 i k := fun i h1 h2 k => by rw [r7 i k (Or.inl h1), r6 i k (Or.inl h1), r5 i k (Or.inl h1), r4 i k (Or.inl h1), r3 i k h2]
  have e11' : M7.2.1 175 11 = M.2.1 175 11 := by rw [r7 _ _ (Or.inr (by decide)), r6 _ _ (Or.inr (by decide)), r5 _ _ (Or.inr (by decide)), r4 _ _ (Or.inr (by decide)), r3 _ _ (by decide)]
  have e14 : M7.2.1 175 14 = 0 := by rw [r7 _ _ (Or.inr (by decide)), r6 _ _ (Or.inr (by decide)), r5 _ _ (Or.inr (by decide)), w4]
  have e8 : M7.2.1 175 8 = 0 := by rw [r7 _ _ (Or.inr (by decide)), r6 _ _ (Or.inr (by decide)), w5]
  have el : M7.2.1 178 t = 0 := by rw [r7 _ _ (Or.inl (by decide)), r6 _ _ (Or.inl (by decide)), r5 _ _ (Or.inl (by decide)), r4 _ _ (Or.inl (by decide)), l3]
  have F : y_Fr p_C M M7 := y_tr f3 (y_tr f4 (y_tr f5 (y_tr f6 f7)))
  have G7 : p_G p_C t M M7 := ⟨F, fun q _ => e 177 (by decide) (by decide) q, fun q _ => e 179 (by decide) (by decide) q, fun k _ => e 180 (by decide) (by decide) k⟩
  have N7 : p_N t 0 M7 := by
    refine ⟨⟨⟨⟨H7, ht⟩, by rw [e11']; exact e11⟩, ⟨?_, ?_⟩, ?_, fun k hk => absurd hk (Nat.not_lt_zero _)⟩, by rw [e14]; rfl, by omega⟩
    · unfold n_l
      rw [el]
      exact Nat.zero_le _
    · unfold n_x
      rw [e8]
      exact Nat.zero_le _
    · unfold n_cc
      rw [e 180 (by decide) (by decide) t]
      exact hc
  rw [e_gO H7, Option.bind_some]
  refine Ok_b (P_clauseHere N7) (fun y z => ?_)
  obtain ⟨v9, M10⟩ := y
  obtain ⟨⟨H10, G10⟩, z⟩ := z
  dsimp only at H10 G10 z ⊢
  have s10 := n_s1 H10
  refine P_rd_L35 _ H10 (p_G_tr G7 (p_G_fl (by decide) G10)) (z.imp id (fun w => ⟨w.1, w.2.1⟩)) (fun _ => n_fu (by omega)) (fun _ => n_fu (by omega))
theorem y_cl_mo {S t c : Nat} {M M' : gM} {t2 : Nat} (G : p_G S t2 M M') (ht : t < t2) (hc : c < 12) (h : y_cl M t (48 * t + 4 * c)) : y_cl M' t (48 * t + 4 * c) := by
  have a : ∀ j, j < 4 → M'.2.1 179 (48 * t + 4 * c + j) = M.2.1 179 (48 * t + 4 * c + j) := fun j hj => G.2.2.1 _ (by omega)
  have a0 : M'.2.1 179 (48 * t + 4 * c) = M.2.1 179 (48 * t + 4 * c) := a 0 (by omega)
  have sn : ∀ j : Nat, j < 400 → y_sn M' t j = y_sn M t j := fun j hj => G.2.1 _ (by omega)
  unfold y_cl at h ⊢
  rw [a0, a 1 (by omega), a 2 (by omega), a 3 (by omega)]
  exact ⟨y_sg_c h.1 (fun j hj => sn j (by have := h.1.1; omega)), fun q => y_sg_c (h.2 q) (fun j hj => sn j (by have := (h.2 q).1; omega))⟩
theorem S_X12_rule {M : gM} (H : y_HT M) (W : y_W M) : Ok (F_X12_rule (some 175) M) (fun r => (y_HT r.2 ∧ y_Fr (p_C + 2 ^ 2 + 2 ^ 11) M r.2) ∧ y_W r.2) := by
  delta F_X12_rule F_X12_rule_b0
  have hr := H.2.1 175 (by decide) 2
  have hr1 : 0 ≤ (M.2.1 175 2).toInt := hr.1
  have hr2 : (M.2.1 175 2).toInt ≤ 6 := hr.2
  have z6 : (6 : Int32).toInt = 6 := rfl
  rw [e_gI H, Option.bind_some]
  refine Ok_i (fun _ => Ok_s ⟨⟨H, y_rf0 _ _⟩, W⟩) (fun c => ?_)
  have c' := i_ne c
  obtain ⟨t, ht⟩ : ∃ t : Nat, (M.2.1 175 2).toInt = (t : Int) := ⟨(M.2.1 175 2).toInt.toNat, by omega⟩
  rw [Option.bind_some, e_pI H, Option.bind_some]
  obtain ⟨H3, f3⟩ := y_set (M' := mI M 175 11 (M.2.1 175 2)) (S := p_C + 2 ^ 2 + 2 ^ 11) H (i := 175) (k := 11) (by decide) rfl rfl y_mI1 (fun j a hj => y_mI2 hj) rfl (y_in (lo := 0) (hi := 6) rfl ⟨hr1, hr2⟩) (by decide)
  have w3 : (mI M 175 11 (M.2.1 175 2)).2.1 175 11 = M.2.1 175 2 := y_mI1
  have r3 : ∀ i k, i ≠ 175 ∨ k ≠ 11 → (mI M 175 11 (M.2.1 175 2)).2.1 i k = M.2.1 i k := fun i k h => mI_ne h
  generalize mI M 175 11 (M.2.1 175 2) = M3 at H3 f3 w3 r3 ⊢
  have ct : (M3.2.1 175 11).toNatClampNeg = t := i_cl (by rw [w3]; exact ht)
  rw [e_gR H3 (w := 180) rfl (by decide), Option.bind_some, e_gI H3, Option.bind_some, e_sI H3 (i := 180) (n := 6) rfl (by rw [w3]; omega) (by rw [w3]; omega), Option.bind_some, ct]
  obtain ⟨H6, f6⟩ := y_set (M' := mI M3 180 t (0 : Int32)) (S := p_C + 2 ^ 2 + 2 ^ 11) H3 (i := 180) (k := t) (by decide) rfl rfl y_mI1 (fun j a hj => y_mI2 hj) rfl (y_in (lo := 0) (hi := 12) rfl (by decide)) (show Nat.testBit (p_C + 2 ^ 2 + 2 ^ 11) 45 = true by decide)
  have w6 : (mI M3 180 t (0 : Int32)).2.1 180 t = 0 := y_mI1
  have r6 : ∀ i k, i ≠ 180 ∨ k ≠ t → (mI M3 180 t (0 : Int32)).2.1 i k = M3.2.1 i k := fun i k h => mI_ne h
  generalize mI M3 180 t (0 : Int32) = M6 at H6 f6 w6 r6 ⊢
  have e6 : ∀ i k, i ≠ 175 → i ≠ 180 → M6.2.1 i k = M.2.1 i k := fun i k h1 h2 => (r6 i k (Or.inl h2)).trans (r3 i k (Or.inl h1))
  have e11 : (M6.2.1 175 11).toInt = (t : Int) := by rw [r6 _ _ (Or.inl (by decide)), w3]; exact ht
  have F6 := y_tr f3 f6
  rw [e_gO H6, Option.bind_some]
  refine Ok_b (P_readsAllR H6 (by omega) e11 (by unfold n_cc; rw [w6]; rfl)) (fun y z => ?_)
  obtain ⟨v8, M9⟩ := y
  obtain ⟨⟨H9, G9⟩, z⟩ := z
  dsimp only at H9 G9 z ⊢
  have F9 : y_Fr (p_C + 2 ^ 2 + 2 ^ 11) M M9 := y_tr F6 (y_fl (by decide) G9.1)
  have k2 : M9.2.1 175 2 = M.2.1 175 2 := (y_fk (i := 175) (k := 2) G9.1 (by decide)).trans ((r6 _ _ (Or.inl (by decide))).trans (r3 _ _ (Or.inr (by decide))))
  have k21 : M9.2.1 175 21 = M.2.1 175 21 := (y_fk (i := 175) (k := 21) G9.1 (by decide)).trans ((r6 _ _ (Or.inl (by decide))).trans (r3 _ _ (Or.inr (by decide))))
  have k194 : ∀ k, M9.2.1 194 k = M.2.1 194 k := fun k => (y_fa (i := 194) G9.1 (by decide) (by decide) k).trans (e6 194 k (by decide) (by decide))
  have k196 : ∀ k, M9.2.1 196 k = M.2.1 196 k := fun k => (y_fa (i := 196) G9.1 (by decide) (by decide) k).trans (e6 196 k (by decide) (by decide))
  -- the elder rules
  have old : ∀ t2 c2 : Nat, t2 < t → (c2 : Int) < (M9.2.1 180 t2).toInt → y_cl M9 t2 (48 * t2 + 4 * c2) := by
    intro t2 c2 h1 h2
    rw [G9.2.2.2 t2 (by omega), r6 180 t2 (Or.inr (by omega)), r3 180 t2 (Or.inl (by decide))] at h2
    have h3 := H.2.1 180 (by decide) t2
    have h4 : (M.2.1 180 t2).toInt ≤ 12 := h3.2
    have h5 := W.2 t2 c2 (by omega) h2
    refine y_cl_mo G9 h1 (by omega) ?_
    have sn : y_sn M6 t2 = y_sn M t2 := funext (fun j => e6 177 _ (by decide) (by decide))
    unfold y_cl at h5 ⊢
    rw [e6 179 _ (by decide) (by decide), e6 179 _ (by decide) (by decide), e6 179 _ (by decide) (by decide), e6 179 _ (by decide) (by decide), sn]
    exact h5
  rcases z with z | ⟨z, zc⟩
  · subst z
    rw [if_pos rfl, e_gI H9, Option.bind_some]
    refine Ok_s ⟨⟨H9, F9⟩, ⟨?_, fun k hk hn => ?_⟩, fun t2 c2 h1 h2 => ?_⟩
    · dsimp only
      rw [k2, k21]
      exact W.1.1
    · dsimp only at hn ⊢
      rw [k196] at hn
      rw [k194, k2]
      exact W.1.2 k hk hn
    · dsimp only at h1 h2 ⊢
      rw [k2] at h1
      exact old t2 c2 (by omega) h2
  · subst z
    have inc := n_inc (x := M9.2.1 175 2) (n := t) (by rw [k2]; exact ht) (by omega)
    rw [if_neg (by decide), e_gI H9, Option.bind_some, e_pI H9, Option.bind_some, inc]
    have ci : (Int32.ofNat (t + 1)).toInt = ((t + 1 : Nat) : Int) := i_ofNat (by omega)
    obtain ⟨H11, f11⟩ := y_set (M' := mI M9 175 2 (Int32.ofNat (t + 1))) (S := p_C + 2 ^ 2 + 2 ^ 11) H9 (i := 175) (k := 2) (by decide) rfl rfl y_mI1 (fun j a hj => y_mI2 hj) rfl (y_in (lo := 0) (hi := 6) rfl (by omega)) (by decide)
    have w11 : (mI M9 175 2 (Int32.ofNat (t + 1))).2.1 175 2 = Int32.ofNat (t + 1) := y_mI1
    have r11 : ∀ i k, i ≠ 175 ∨ k ≠ 2 → (mI M9 175 2 (Int32.ofNat (t + 1))).2.1 i k = M9.2.1 i k := fun i k h => mI_ne h
    generalize mI M9 175 2 (Int32.ofNat (t + 1)) = M11 at H11 f11 w11 r11 ⊢
    rw [e_gI H11, Option.bind_some]
    have hcl : ∀ t2 q, y_cl M9 t2 q → y_cl M11 t2 q := by
      intro t2 q h
      have sn : y_sn M11 t2 = y_sn M9 t2 := funext (fun j => r11 177 _ (Or.inl (by decide)))
      unfold y_cl at h ⊢
      rw [r11 179 _ (Or.inl (by decide)), r11 179 _ (Or.inl (by decide)), r11 179 _ (Or.inl (by decide)), r11 179 _ (Or.inl (by decide)), sn]
      exact h
    refine Ok_s ⟨⟨H11, y_tr F9 f11⟩, ⟨?_, fun k hk hn => ?_⟩, fun t2 c2 h1 h2 => ?_⟩
    · dsimp only
      rw [w11, ci, r11 175 21 (Or.inr (by decide)), k21]
      have := W.1.1
      omega
    · dsimp only at hn ⊢
      rw [r11 196 k (Or.inl (by decide)), k196] at hn
      rw [r11 194 k (Or.inl (by decide)), k194, w11, ci]
      have := W.1.2 k hk hn
      omega
    · dsimp only at h1 h2 ⊢
      rw [w11, ci] at h1
      rw [r11 180 t2 (Or.inl (by decide))] at h2
      apply hcl
      rcases Nat.lt_or_ge t2 t with h3 | h3
      · exact old t2 c2 h3 h2
      · have e : t2 = t := by omega
        subst e
        exact zc c2 (by have := (n_cc1 H9 t2).1; omega)
-- 60.house2
/-! the whole text as a HOUSE -/
theorem P_clauseHereH {M : gM} (H : y_HT M) (hx : n_x M ≤ n_s M) (e11 : M.2.1 175 11 = 6) : Ok (F_X12_clauseHere (some 175) M) (h_Q M) := by
  delta F_X12_clauseHere F_X12_clauseHere_b0
  rw [e_gO H, Option.bind_some]
  refine h_see H hx (fun M3 H3 f3 _ => ?_)
  dsimp only
  have x3 := n_x1 H3
  have t3 : M3.2.1 175 11 = 6 := (y_fk (i := 175) (k := 11) f3.1 (by decide)).trans e11
  rw [e_gI H3, Option.bind_some, e_gI H3, Option.bind_some, t3, if_pos rfl]
  delta F_X12_clauseHere_b24
  rw [if_neg (by decide), e_gO H3, Option.bind_some]
  refine Ok_b (P_isHouseWord H3 f3.2.2) (fun y z => ?_)
  obtain ⟨v5, M6⟩ := y
  obtain ⟨z1, H6, f6⟩ := z
  have F6 := h_tr f3 f6
  dsimp only at z1 H6 f6 F6 ⊢
  have bad : ∀ {k : Int32}, (0 ≤ k.toInt ∧ k.toInt ≤ 4) → Ok ((F_X12_fails (some 175) k (M3.2.1 175 8) M6).bind fun (v2, M4) => if v2 = 0 ∨ v2 = 1 then some (v2, M4) else none) (h_Q M) := by
    intro k hk
    refine h_fails H6 x3.1 x3.2 hk (fun M' H' f' g' => ?_)
    dsimp only
    rw [if_pos (Or.inl rfl)]
    exact h_Q0 H' (y_tr F6.1 f') g'
  refine Ok_i (fun _ => ?_) (fun _ => ?_)
  · delta F_X12_clauseHere_b49
    rw [e_gO H6, Option.bind_some]
    exact bad (by decide)
  · delta F_X12_clauseHere_b56 F_X12_clauseHere_b71
    rw [e_gI H6, Option.bind_some, if_neg (by decide)]
    refine Ok_i (fun _ => ?_) (fun e => ?_)
    · rw [e_gO H6, Option.bind_some]
      exact bad (by decide)
    · rw [Option.bind_some, e_pI H6, Option.bind_some]
      obtain ⟨H2, f2⟩ := y_set (M' := mI M6 175 14 (M6.2.1 175 14 + (1 : Int32))) (S := h_A) H6 (i := 175) (k := 14) (by decide) rfl rfl y_mI1 (fun j a hj => y_mI2 hj) rfl (y_full rfl) (by decide)
      have x2 : n_x (mI M6 175 14 (M6.2.1 175 14 + (1 : Int32))) = n_x M6 := by
        unfold n_x
        rw [mI_ne (Or.inr (by decide))]
      have s2 : n_s (mI M6 175 14 (M6.2.1 175 14 + (1 : Int32))) = n_s M6 := by
        unfold n_s
        rw [mI_ne (Or.inr (by decide))]
      generalize mI M6 175 14 (M6.2.1 175 14 + (1 : Int32)) = M2 at H2 f2 x2 s2 ⊢
      have f2' : h_F M6 M2 := ⟨f2, by omega, by have := f6.2.2; omega⟩
      rw [if_neg (by decide), e_gO H2, Option.bind_some]
      exact h_end (h_tr F6 f2') (P_houseLineHere H2 f2'.2.2 x3.1 x3.2)
abbrev h_B : Nat := h_A + 2 ^ 1 + 2 ^ 12 + 2 ^ 43
def h_Z (M : gM) : Int32 × gM → Prop := fun r => y_HT r.2 ∧ y_Fr h_B M r.2
theorem P_rh_b88 {M M0 : gM} (H : y_HT M) (G : y_Fr h_B M0 M) : Ok (F_X12_readsAll_b88 (some 175) M) (h_Z M0) := by
  delta F_X12_readsAll_b88
  rw [e_pI H, Option.bind_some]
  obtain ⟨H1, f1⟩ := y_set (M' := mI M 175 1 (0 : Int32)) (S := h_B) H (i := 175) (k := 1) (by decide) rfl rfl y_mI1 (fun j a hj => y_mI2 hj) rfl (y_in (lo := 0) (hi := 400) rfl (by decide)) (by decide)
  rw [e_gI H1, Option.bind_some]
  exact Ok_i (fun e => Ok_s ⟨H1, y_tr G f1⟩) (fun _ => Ok_s ⟨H1, y_tr G f1⟩)
theorem P_rh_b66 {l1 : Int32} {M M0 : gM} (H : y_HT M) (G : y_Fr h_B M0 M) (h : l1 ≠ 0 → n_x M ≤ n_s M) : Ok (F_X12_readsAll_b66 (some 175) l1 M) (h_Z M0) := by
  delta F_X12_readsAll_b66
  refine Ok_i (fun _ => P_rh_b88 H G) (fun e => ?_)
  rw [e_gO H, Option.bind_some]
  refine h_see H (h e) (fun M3 H3 f3 _ => ?_)
  have x3 := n_x1 H3
  have G3 := y_tr G (y_fl (S2 := h_B) (by decide) f3.1)
  dsimp only
  refine Ok_i (fun _ => P_rh_b88 H3 G3) (fun _ => ?_)
  rw [e_gI H3, Option.bind_some, e_gC H3, Option.bind_some]
  refine h_fails H3 x3.1 x3.2 (by decide) (fun M' H' f' g' => ?_)
  dsimp only
  exact P_rh_b88 H' (y_tr G3 (y_fl (by decide) f'))
theorem P_rh_L35 {M0 : gM} (e0 : M0.2.1 175 11 = 6) : ∀ (n : Nat) {l1 : Int32} {M : gM}, y_HT M → y_Fr h_B M0 M → (l1 ≠ 0 → n_x M ≤ n_s M) → 1 ≤ n → (l1 ≠ 0 → n_s M - n_x M < n) → Ok (F_X12_readsAll_L35 n (some 175) l1 M) (h_Z M0) := by
  intro n
  induction n with
  | zero => intro l1 M H G h a1 a2; omega
  | succ n ih =>
    intro l1 M H G h a1 a2
    show Ok (F_X12_readsAll_b35 (F_X12_readsAll_L35 n) (some 175) l1 M) _
    delta F_X12_readsAll_b35
    refine Ok_i (fun _ => P_rh_b66 H G h) (fun e => ?_)
    have hx := h e
    have a3 := a2 e
    have s1 := n_s1 H
    rw [e_gO H, Option.bind_some]
    refine h_see H hx (fun M3 H3 f3 e3 => ?_)
    have G3 := y_tr G (y_fl (S2 := h_B) (by decide) f3.1)
    have s3 := n_fs f3.1 (by decide)
    dsimp only
    refine Ok_i (fun e59 => ?_) (fun _ => P_rh_b66 H3 G3 (fun _ => f3.2.2))
    have hlt := n_c_lt e59 (by decide)
    rw [e_gI H3, Option.bind_some, e_pI H3, Option.bind_some, n_next H3]
    obtain ⟨H5, f5⟩ := h_F_at (p := n_x M3 + 1) H3 (by omega) (by omega)
    have x5 : n_x (n_at M3 (n_x M3 + 1)) = n_x M3 + 1 := n_at_x (by omega)
    have s5 : n_s (n_at M3 (n_x M3 + 1)) = n_s M3 := n_at_s
    have t5 : (n_at M3 (n_x M3 + 1)).2.1 175 11 = 6 := (n_atk (by decide)).trans ((y_fk (i := 175) (k := 11) G3 (by decide)).trans e0)
    have x3 := f3.2.1
    generalize n_at M3 (n_x M3 + 1) = M5 at H5 f5 x5 s5 t5 ⊢
    rw [e_gC H5, Option.bind_some]
    refine Ok_b (P_clauseHereH H5 f5.2.2 t5) (fun y z => ?_)
    obtain ⟨v7, M8⟩ := y
    obtain ⟨⟨H8, G8⟩, z⟩ := z
    have s8 := n_fs G8 (by decide)
    dsimp only at H8 G8 z s8 ⊢
    have ok : v7 ≠ 0 → h_F M5 M8 := by
      intro hne
      rcases z with z | z
      · exact absurd z.1 hne
      · exact z.2
    refine ih H8 (y_tr G3 (y_tr (y_fl (by decide) f5.1) (y_fl (by decide) G8))) (fun hne => (ok hne).2.2) (by omega) (fun hne => ?_)
    have := (ok hne).2
    omega
theorem P_readsAllH {M : gM} (H : y_HT M) (e11 : M.2.1 175 11 = 6) : Ok (F_X12_readsAll (some 175) M) (h_Z M) := by
  delta F_X12_readsAll F_X12_readsAll_b0
  have z6 : (6 : Int32).toInt = 6 := rfl
  rw [e_gR H (w := 178) rfl (by decide), Option.bind_some, e_gI H, Option.bind_some, e11, e_sI H (i := 178) (n := 7) rfl (by decide) (by decide), Option.bind_some]
  obtain ⟨H3, f3⟩ := y_set (M' := mI M 178 (6 : Int32).toNatClampNeg (0 : Int32)) (S := h_B) H (i := 178) (k := (6 : Int32).toNatClampNeg) (by decide) rfl rfl y_mI1 (fun j a hj => y_mI2 hj) rfl (y_in (lo := 0) (hi := 400) rfl (by decide)) (show Nat.testBit h_B 43 = true by decide)
  generalize mI M 178 (6 : Int32).toNatClampNeg (0 : Int32) = M3 at H3 f3 ⊢
  rw [e_pI H3, Option.bind_some]
  obtain ⟨H4, f4⟩ := y_set (M' := mI M3 175 14 (0 : Int32)) (S := h_B) H3 (i := 175) (k := 14) (by decide) rfl rfl y_mI1 (fun j a hj => y_mI2 hj) rfl (y_full rfl) (by decide)
  generalize mI M3 175 14 (0 : Int32) = M4 at H4 f4 ⊢
  rw [e_pI H4, Option.bind_some]
  obtain ⟨H5, f5⟩ := y_set (M' := mI M4 175 8 (0 : Int32)) (S := h_B) H4 (i := 175) (k := 8) (by decide) rfl rfl y_mI1 (fun j a hj => y_mI2 hj) rfl (y_in (lo := 0) (hi := 400) rfl (by decide)) (by decide)
  have w5 : (mI M4 175 8 (0 : Int32)).2.1 175 8 = 0 := y_mI1
  generalize mI M4 175 8 (0 : Int32) = M5 at H5 f5 w5 ⊢
  rw [e_pI H5, Option.bind_some]
  obtain ⟨H6, f6⟩ := y_set (M' := mI M5 175 9 (0 : Int32)) (S := h_B) H5 (i := 175) (k := 9) (by decide) rfl rfl y_mI1 (fun j a hj => y_mI2 hj) rfl (y_full rfl) (by decide)
  have w6 : (mI M5 175 9 (0 : Int32)).2.1 175 8 = 0 := (mI_ne (Or.inr (by decide))).trans w5
  generalize mI M5 175 9 (0 : Int32) = M6 at H6 f6 w6 ⊢
  rw [e_pI H6, Option.bind_some]
  obtain ⟨H7, f7⟩ := y_set (M' := mI M6 175 12 (0 : Int32)) (S := h_B) H6 (i := 175) (k := 12) (by decide) rfl rfl y_mI1 (fun j a hj => y_mI2 hj) rfl (y_in (lo := 0) (hi := 60) rfl (by decide)) (by decide)
  have w7 : (mI M6 175 12 (0 : Int32)).2.1 175 8 = 0 := (mI_ne (Or.inr (by decide))).trans w6
  generalize mI M6 175 12 (0 : Int32) = M7 at H7 f7 w7 ⊢
  have F : y_Fr h_B M M7 := y_tr f3 (y_tr f4 (y_tr f5 (y_tr f6 f7)))
  have x7 : n_x M7 ≤ n_s M7 := by
    unfold n_x
    rw [w7]
    exact Nat.zero_le _
  rw [e_gO H7, Option.bind_some]
  refine Ok_b (P_clauseHereH H7 x7 ((y_fk (i := 175) (k := 11) F (by decide)).trans e11)) (fun y z => ?_)
  obtain ⟨v9, M10⟩ := y
  obtain ⟨⟨H10, G10⟩, z⟩ := z
  dsimp only at H10 G10 z ⊢
  have s10 := n_s1 H10
  refine P_rh_L35 e11 _ H10 (y_tr F (y_fl (by decide) G10)) (fun hne => ?_) (n_fu (by omega)) (fun _ => n_fu (by omega))
  rcases z with z | z
  · exact absurd z.1 hne
  · exact z.2.2.2
abbrev h_C : Nat := h_B + 2 ^ 11 + 2 ^ 25 + 2 ^ 50
theorem P_house_L44 {M0 : gM} : ∀ (n k : Nat) {l1 : Int32} {M : gM}, y_HT M → y_Fr h_C M0 M → l1.toInt = (k : Int) → k ≤ 157 → 157 - k < n → Ok (F_X12_house_L44 n (some 175) l1 M) (fun r => y_HT r.2 ∧ y_Fr h_C M0 r.2) := by
  intro n
  induction n with
  | zero => intro k l1 M H G h h1 h2; omega
  | succ n ih =>
    intro k l1 M H G h h1 h2
    show Ok (F_X12_house_b44 (F_X12_house_L44 n) (some 175) l1 M) _
    have z : (157 : Int32).toInt = 157 := rfl
    delta F_X12_house_b44
    refine Ok_i (fun c => ?_) (fun c => ?_)
    · rw [e_pI H, Option.bind_some]
      obtain ⟨H1, f1⟩ := y_set (M' := mI M 175 25 (0 : Int32)) (S := h_C) H (i := 175) (k := 25) (by decide) rfl rfl y_mI1 (fun j a hj => y_mI2 hj) rfl (y_in (lo := 0) (hi := 20) rfl (by decide)) (by decide)
      rw [e_gR H1 (w := 185) rfl (by decide), Option.bind_some, e_aI H1 (t := 20) (i := 185) (n := 157) rfl (by decide) (by decide) (by decide), Option.bind_some]
      exact Ok_s ⟨H1, y_tr G f1⟩
    · have c' := i_nle c
      have cl : l1.toNatClampNeg = k := i_cl h
      rw [e_gR H (w := 185) rfl (by decide), Option.bind_some, e_gR H (w := 181) rfl (by decide), Option.bind_some, e_aI H (t := 20) (i := 181) (n := 157) rfl (by decide) (by omega) (by omega), Option.bind_some, e_sI H (i := 185) (n := 157) rfl (by omega) (by omega), Option.bind_some, cl]
      obtain ⟨H1, f1⟩ := y_set (M' := mI M 185 k (M.2.1 181 k)) (S := h_C) H (i := 185) (k := k) (by decide) rfl rfl y_mI1 (fun j a hj => y_mI2 hj) rfl (H.2.1 181 (by decide) k) (show Nat.testBit h_C 50 = true by decide)
      refine ih (k + 1) H1 (y_tr G f1) ?_ (by omega) (by omega)
      rw [n_inc h (by omega), i_ofNat (by omega)]
theorem P_house_L8 {M0 : gM} : ∀ (n k : Nat) {l1 : Int32} {M : gM}, y_HT M → y_Fr h_C M0 M → M.2.1 175 11 = 6 → l1.toInt = (k : Int) → k ≤ 10 → 10 - k < n → Ok (F_X12_house_L8 n (some 175) l1 M) (fun r => y_HT r.2 ∧ y_Fr h_C M0 r.2) := by
  intro n
  induction n with
  | zero => intro k l1 M H G t h h1 h2; omega
  | succ n ih =>
    intro k l1 M H G t h h1 h2
    show Ok (F_X12_house_b8 (F_X12_house_L8 n) (some 175) l1 M) _
    have z : (10 : Int32).toInt = 10 := rfl
    delta F_X12_house_b8
    refine Ok_i (fun c => ?_) (fun c => ?_)
    · rw [e_gO H, Option.bind_some]
      refine Ok_b (P_readsAllH H t) (fun y q => ?_)
      obtain ⟨v2, M3⟩ := y
      obtain ⟨H3, F3⟩ := q
      have G3 : y_Fr h_C M0 M3 := y_tr G (y_fl (by decide) F3)
      dsimp only at H3 ⊢
      refine Ok_i (fun _ => ?_) (fun _ => ?_)
      · rw [e_gI H3, Option.bind_some]
        exact Ok_s ⟨H3, G3⟩
      · exact P_house_L44 _ 0 H3 G3 rfl (by omega) (n_fu (by omega))
    · have c' := i_nle c
      have cl : l1.toNatClampNeg = k := i_cl h
      rw [e_gR H (w := 181) rfl (by decide), Option.bind_some, e_sI H (i := 181) (n := 157) rfl (by omega) (by omega), Option.bind_some, cl]
      obtain ⟨H1, f1⟩ := y_set (M' := mI M 181 k (0 : Int32)) (S := h_C) H (i := 181) (k := k) (v := 0) (by decide) rfl rfl y_mI1 (fun j a hj => y_mI2 hj) rfl (by
        show y_rg (y_tS k) 0
        unfold y_tS
        split
        · exact ⟨by decide, by decide⟩
        · split
          · exact ⟨by decide, by decide⟩
          · split <;> exact ⟨by decide, by decide⟩) (show Nat.testBit h_C 46 = true by decide)
      refine ih (k + 1) H1 (y_tr G f1) ((mI_ne (Or.inl (by decide))).trans t) ?_ (by omega) (by omega)
      rw [n_inc h (by omega), i_ofNat (by omega)]
theorem S_X12_house {M : gM} (H : y_HT M) : Ok (F_X12_house (some 175) M) (fun r => y_HT r.2 ∧ y_Fr h_C M r.2) := by
  delta F_X12_house F_X12_house_b0
  rw [e_pI H, Option.bind_some]
  obtain ⟨H1, f1⟩ := y_set (M' := mI M 175 11 (6 : Int32)) (S := h_C) H (i := 175) (k := 11) (by decide) rfl rfl y_mI1 (fun j a hj => y_mI2 hj) rfl (y_in (lo := 0) (hi := 6) rfl (by decide)) (by decide)
  exact P_house_L8 _ 0 H1 f1 y_mI1 rfl (by omega) (n_fu (by omega))
-- 61.clex
/-! the class's TAPE, exactly: T is a memory whose reference's tape holds the same bytes -/
theorem t_gI {c i k : Nat} {M : gM} (h : g_k M i = (c, 0)) : gI c M (some i) k = some (M.2.1 i k) := by
  unfold gI
  rw [Option.bind_some, if_pos h]
theorem t_gR {c i k : Nat} {w : Option Nat} {M : gM} (h : g_k M i = (c, 0)) (e : M.2.2.2 i k = w) : gR c M (some i) k = some w := by
  unfold gR
  rw [Option.bind_some, if_pos h, e]
theorem t_gO {c i : Nat} {M : gM} (h : g_k M i = (c, 0)) : gO c M (some i) = some i := by
  unfold gO
  rw [Option.bind_some, if_pos h]
theorem t_gC {c i : Nat} {M : gM} (h : g_k M i = (c, 0)) : gC c M i = some () := by
  unfold gC
  rw [if_pos h]
theorem t_aI {t i n : Nat} {j : Int32} {M : gM} (h : g_k M i = (t, n)) (h0 : 0 ≤ j.toInt) (h1 : j.toInt < (n : Int)) : aI t M (some i) j = some (M.2.1 i j.toNatClampNeg) := by
  unfold aI
  rw [Option.bind_some, if_pos ⟨by rw [h], by rw [h]; exact gin_of h0 h1⟩]
theorem t_pI {c i k : Nat} {v : Int32} {M : gM} (h : g_k M i = (c, 0)) : pI c M (some i) k v = some (mI M i k v) := by
  unfold pI
  rw [Option.bind_some, if_pos h]
theorem t_sI {i n : Nat} {j v : Int32} {M : gM} (h : g_k M i = (20, n)) (h0 : 0 ≤ j.toInt) (h1 : j.toInt < (n : Int)) : sI M (some i) j v = some (mI M i j.toNatClampNeg v) := by
  unfold sI
  rw [Option.bind_some, if_pos ⟨by rw [h], by rw [h]; exact gin_of h0 h1⟩]
theorem t_aN {t i n : Nat} {M : gM} (h : g_k M i = (t, n)) (ht : 20 ≤ t ∧ t < 27) : aN M (some i) = some (Int32.ofNat n) := by
  unfold aN
  rw [Option.bind_some, if_pos (by rw [h]; exact ht), h]
def z_L (M : gM) : Prop := (((g_k M 131 = (9, 0) ∧ g_k M 132 = (22, 400)) ∧ (g_k M 133 = (20, 401) ∧ g_k M 134 = (20, 401)) ∧ g_k M 135 = (20, 401)) ∧
  ((g_k M 148 = (7, 0) ∧ g_k M 149 = (20, 400)) ∧ g_k M 150 = (20, 36))) ∧
  ((M.2.2.2 131 0 = some 132 ∧ M.2.2.2 131 1 = some 133) ∧ M.2.2.2 131 2 = some 134 ∧ M.2.2.2 131 3 = some 135) ∧
  ((M.2.2.2 148 0 = some 131 ∧ M.2.2.2 148 1 = some 149) ∧ M.2.2.2 148 2 = some 150)
theorem z_mI {M : gM} {i k : Nat} {v : Int32} (h : z_L M) : z_L (mI M i k v) := h
/-- bytes -/
def z_B (T : gM) : Prop := (∀ q, -128 ≤ (n_b T q).toInt ∧ (n_b T q).toInt ≤ 127) ∧ n_s T ≤ 400
def z_T (T M : gM) : Prop := (z_L M ∧ z_B T) ∧ M.2.1 132 = n_b T ∧ (M.2.1 131 6).toInt = (n_s T : Int)
/-- what the class sees at a place: END behind the last byte -/
def n_ca (T : gM) (q : Nat) : Int32 := if q < n_s T then n_b T q &&& 255 else 256
theorem C_byteAt {T M : gM} {l : Int32} {q : Nat} (Z : z_T T M) (h : l.toInt = (q : Int)) : F_X9_byteAt (some 131) l M = some (n_ca T q) := by
  obtain ⟨⟨⟨⟨⟨⟨k1, k2⟩, _⟩, _⟩, ⟨r0, _⟩, _⟩, B⟩, eb, es⟩ := Z
  have z0 : (0 : Int32).toInt = 0 := rfl
  have z4 : (400 : Int32).toInt = 400 := rfl
  delta F_X9_byteAt F_X9_byteAt_b0 F_X9_byteAt_b32
  unfold n_ca
  rw [if_neg (fun c => by have := i_lt c; omega), t_gI k1, Option.bind_some]
  by_cases c : M.2.1 131 6 ≤ l
  · have := i_le c
    rw [if_pos c, if_neg (by omega)]
  · have hc := i_nle c
    rw [if_neg c, if_neg (fun c2 => by have := i_le c2; have := B.2; omega), t_gR k1 r0.1, Option.bind_some, t_aI k2 (by omega) (by have := B.2; omega), Option.bind_some, i_cl h, if_pos (by omega), eb]
theorem i_and255a : ∀ i : Fin 256, ((Int32.ofInt ((i.val : Int) - 128)) &&& 255).toInt = (if 128 ≤ i.val then (i.val : Int) - 128 else (i.val : Int) + 128) := by decide +kernel
theorem i_and255 {x : Int32} (h1 : -128 ≤ x.toInt) (h2 : x.toInt ≤ 127) : (x &&& 255).toInt = (if 0 ≤ x.toInt then x.toInt else x.toInt + 256) := by
  have h := i_and255a ⟨(x.toInt + 128).toNat, by omega⟩
  have e : ((((x.toInt + 128).toNat : Nat) : Int) - 128) = x.toInt := by omega
  simp only [e, Int32.ofInt_toInt] at h
  rw [h]
  by_cases c : 0 ≤ x.toInt
  · rw [if_pos c, if_pos (by omega)]
  · rw [if_neg c, if_neg (by omega)]
    omega
theorem n_ca_r {T : gM} {q : Nat} (B : z_B T) (h : q < n_s T) : (n_ca T q).toInt = (if 0 ≤ (n_b T q).toInt then (n_b T q).toInt else (n_b T q).toInt + 256) := by
  unfold n_ca
  rw [if_pos h]
  exact i_and255 (B.1 q).1 (B.1 q).2
theorem n_ca_end {T : gM} {q : Nat} (h : n_s T ≤ q) : n_ca T q = 256 := by
  unfold n_ca
  rw [if_neg (by omega)]
theorem C_isLetter {v : Int32} {M : gM} : F_X9_isLetter v M = some (if 97 ≤ v.toInt ∧ v.toInt ≤ 122 then 1 else 0) := by
  delta F_X9_isLetter F_X9_isLetter_b0 F_X9_isLetter_b16
  have z1 : (97 : Int32).toInt = 97 := rfl
  have z2 : (122 : Int32).toInt = 122 := rfl
  by_cases c : v < 97
  · have := i_lt c
    rw [if_pos c, if_neg (by omega)]
  · have := i_nlt c
    rw [if_neg c]
    by_cases c2 : (122 : Int32) < v
    · have := i_lt c2
      rw [if_pos c2, if_neg (by omega)]
    · have := i_nlt c2
      rw [if_neg c2, if_pos (by omega)]
theorem C_isDigit {v : Int32} {M : gM} : F_X9_isDigit v M = some (if 48 ≤ v.toInt ∧ v.toInt ≤ 57 then 1 else 0) := by
  delta F_X9_isDigit F_X9_isDigit_b0 F_X9_isDigit_b16
  have z1 : (48 : Int32).toInt = 48 := rfl
  have z2 : (57 : Int32).toInt = 57 := rfl
  by_cases c : v < 48
  · have := i_lt c
    rw [if_pos c, if_neg (by omega)]
  · have := i_nlt c
    rw [if_neg c]
    by_cases c2 : (57 : Int32) < v
    · have := i_lt c2
      rw [if_pos c2, if_neg (by omega)]
    · have := i_nlt c2
      rw [if_neg c2, if_pos (by omega)]
theorem n_ca_L {T : gM} {q : Nat} (B : z_B T) : (97 ≤ (n_ca T q).toInt ∧ (n_ca T q).toInt ≤ 122) ↔ n_L T q = true := by
  unfold n_L
  rw [decide_eq_true_iff]
  by_cases h : q < n_s T
  · rw [n_ca_r B h]
    have := B.1 q
    split <;> omega
  · rw [n_ca_end (by omega)]
    exact ⟨fun z => absurd z.2 (by decide), fun z => absurd z.1 h⟩
theorem n_ca_D {T : gM} {q : Nat} (B : z_B T) : (48 ≤ (n_ca T q).toInt ∧ (n_ca T q).toInt ≤ 57) ↔ n_D T q = true := by
  unfold n_D
  rw [decide_eq_true_iff]
  by_cases h : q < n_s T
  · rw [n_ca_r B h]
    have := B.1 q
    split <;> omega
  · rw [n_ca_end (by omega)]
    exact ⟨fun z => absurd z.2 (by decide), fun z => absurd z.1 h⟩
theorem C_isLetterAt {T M : gM} {q : Nat} (B : z_B T) : F_X9_isLetter (n_ca T q) M = some (if n_L T q = true then 1 else 0) := by
  rw [C_isLetter]
  by_cases c : n_L T q = true
  · rw [if_pos c, if_pos ((n_ca_L B).mpr c)]
  · rw [if_neg c, if_neg (fun z => c ((n_ca_L B).mp z))]
theorem C_isDigitAt {T M : gM} {q : Nat} (B : z_B T) : F_X9_isDigit (n_ca T q) M = some (if n_D T q = true then 1 else 0) := by
  rw [C_isDigit]
  by_cases c : n_D T q = true
  · rw [if_pos c, if_pos ((n_ca_D B).mpr c)]
  · rw [if_neg c, if_neg (fun z => c ((n_ca_D B).mp z))]
/-- where a run ends, of letters or of digits -/
def n_re (T : gM) (b : Bool) (p : Nat) : Nat := if b = true then n_le T p else n_de T p
def n_rp (T : gM) (b : Bool) (p : Nat) : Bool := if b = true then n_L T p else n_D T p
theorem n_re_step {T : gM} {b : Bool} {p : Nat} (h : n_rp T b p = true) : n_re T b p = n_re T b (p + 1) := by
  cases b
  · exact n_de_step h
  · exact n_le_step h
theorem n_re_stop {T : gM} {b : Bool} {p : Nat} (h : ¬ n_rp T b p = true) : n_re T b p = p := by
  cases b
  · exact n_de_stop h
  · exact n_le_stop h
theorem n_rp_s {T : gM} {b : Bool} {p : Nat} (h : n_rp T b p = true) : p < n_s T := by
  cases b
  · exact (of_decide_eq_true h).1
  · exact (of_decide_eq_true h).1
theorem C_endOfRun_L13 {T M : gM} (Z : z_T T M) {b : Bool} {l2 : Int32} (hb : l2 = (if b = true then 1 else 0)) : ∀ (n q : Nat) {l3 : Int32}, l3.toInt = (q : Int) → q ≤ n_s T → n_s T - q < n → Ok (F_X9_endOfRun_L13 M n (some 131) l2 l3) (fun v => v.toInt = (n_re T b q : Int)) := by
  intro n
  induction n with
  | zero => intro q l3 h1 h2 h3; omega
  | succ n ih =>
    intro q l3 h1 h2 h3
    show Ok (F_X9_endOfRun_b13 (F_X9_endOfRun_L13 M n) M (some 131) l2 l3) _
    have k1 := Z.1.1.1.1.1.1
    have B := Z.1.2
    have es := Z.2.2
    delta F_X9_endOfRun_b13 F_X9_endOfRun_b50 F_X9_endOfRun_b52
    rw [t_gI k1, Option.bind_some]
    refine Ok_i (fun c => ?_) (fun c => ?_)
    · have := i_le c
      rw [Option.bind_some]
      refine Ok_s ?_
      rw [n_re_stop (fun z => by have := n_rp_s z; omega)]
      omega
    · have hc := i_nle c
      have step : n_rp T b q = true → Ok (F_X9_endOfRun_L13 M n (some 131) l2 (l3 + 1)) (fun v => v.toInt = (n_re T b q : Int)) := by
        intro h
        rw [n_re_step h]
        refine ih (q + 1) ?_ (by omega) (by omega)
        rw [n_inc h1 (by have := B.2; omega), i_ofNat (by have := B.2; omega)]
      have stop : ¬ n_rp T b q = true → Ok (some l3) (fun v => v.toInt = (n_re T b q : Int)) := by
        intro h
        refine Ok_s ?_
        rw [n_re_stop h]
        exact h1
      cases b
      · rw [if_pos (show l2 = 0 from hb), t_gO k1, Option.bind_some, C_byteAt Z h1, Option.bind_some, C_isDigitAt B, Option.bind_some]
        by_cases d : n_D T q = true
        · rw [if_pos d, if_neg (by decide)]
          exact step d
        · rw [if_neg d, if_pos rfl]
          exact stop d
      · rw [if_neg (by rw [hb]; decide), t_gO k1, Option.bind_some, C_byteAt Z h1, Option.bind_some, C_isLetterAt B, Option.bind_some]
        by_cases d : n_L T q = true
        · rw [if_pos d, if_neg (by decide)]
          exact step d
        · rw [if_neg d, if_pos rfl]
          exact stop d
theorem C_endOfRun {T M : gM} {l : Int32} {p : Nat} (Z : z_T T M) (h : l.toInt = (p : Int)) (b : Bool) (hp : n_rp T b p = true) : Ok (F_X9_endOfRun (some 131) l M) (fun v => v.toInt = (n_re T b p : Int)) := by
  have k1 := Z.1.1.1.1.1.1
  have B := Z.1.2
  have hs := n_rp_s hp
  delta F_X9_endOfRun F_X9_endOfRun_b0
  rw [t_gO k1, Option.bind_some, C_byteAt Z h, Option.bind_some, C_isLetterAt B, Option.bind_some, n_re_step hp]
  refine C_endOfRun_L13 Z ?_ _ (p + 1) ?_ (by omega) (n_fu (by have := B.2; omega))
  · cases b
    · have hp' : n_D T p = true := hp
      rw [if_neg (fun z => by have := n_LD z; rw [this] at hp'; cases hp')]
      rfl
    · rw [if_pos (show n_L T p = true from hp)]
      rfl
  · show (l + (1 : Int32)).toInt = _
    rw [n_inc h (by have := B.2; omega), i_ofNat (by have := B.2; omega)]
/-- the value of a NUMBER, too much if it has more than five digits -/
def k_val (T : gM) (p : Nat) : Int32 := if n_de T p ≤ p + 5 then n_v T p else 1000000
theorem C_valueOf_L15 {T M : gM} (Z : z_T T M) {p : Nat} {l2 : Int32} (h2 : l2.toInt = (n_de T p : Int)) (hd : n_de T p ≤ p + 5) : ∀ (n k : Nat) {l3 l4 : Int32}, l4.toInt = ((p + k : Nat) : Int) → p + k ≤ n_de T p → l3 = n_dv (n_b T) p k → n_de T p - (p + k) < n → F_X9_valueOf_L15 M n (some 131) l2 l3 l4 = some (n_v T p) := by
  intro n
  induction n with
  | zero => intro k l3 l4 h1 h3 h4 h5; omega
  | succ n ih =>
    intro k l3 l4 h1 h3 h4 h5
    show F_X9_valueOf_b15 (F_X9_valueOf_L15 M n) M (some 131) l2 l3 l4 = _
    have k1 := Z.1.1.1.1.1.1
    have B := Z.1.2
    delta F_X9_valueOf_b15
    by_cases c : l2 ≤ l4
    · have := i_le c
      rw [if_pos c, h4]
      unfold n_v
      rw [show min (n_de T p - p) 5 = k by omega]
    · have hc := i_nle c
      have hk : n_D T (p + k) = true := n_run_in _ _ (p + k) (by omega) (show p + k < n_de T p by omega)
      have hs : p + k < n_s T := (of_decide_eq_true hk).1
      have hr := (of_decide_eq_true hk).2
      have eca : n_ca T (p + k) = n_b T (p + k) := Int32.toInt_inj.mp (by rw [n_ca_r B hs, if_pos (by omega)])
      rw [if_neg c, t_gO k1, Option.bind_some, C_byteAt Z h1, Option.bind_some]
      refine ih (k + 1) ?_ (by omega) ?_ (by omega)
      · show (l4 + (1 : Int32)).toInt = _
        rw [n_inc h1 (by have := B.2; omega), i_ofNat (by have := B.2; omega)]
        rfl
      · rw [h4, eca]
        show _ = (((10 : Int32) * n_dv (n_b T) p k) + n_b T (p + k)) - (48 : Int32)
        rw [Int32.mul_comm]
theorem C_valueOf {T M : gM} {l1 l2 : Int32} {p : Nat} (Z : z_T T M) (h1 : l1.toInt = (p : Int)) (h2 : l2.toInt = (n_de T p : Int)) (hp : p ≤ n_s T) : F_X9_valueOf (some 131) l1 l2 M = some (k_val T p) := by
  have B := Z.1.2
  have d := n_de_le hp
  have z5 : (5 : Int32).toInt = 5 := rfl
  have a := i_sub (x := l2) (y := l1) (by have := B.2; omega) (by have := B.2; omega)
  delta F_X9_valueOf F_X9_valueOf_b0
  unfold k_val
  by_cases c : l2 - l1 ≤ 5
  · have := i_le c
    rw [if_pos c, if_pos (by omega)]
    exact C_valueOf_L15 Z h2 (by omega) _ 0 h1 d.1 rfl (n_fu (by have := B.2; omega))
  · have := i_nle c
    rw [if_neg c, if_neg (by omega)]
-- 62.words
/-! words: the class's, letter by letter; the reference's, as one number -/
def w_m (T : gM) (p : Nat) (W : List Nat) : Bool := decide (n_le T p = p + W.length) && (List.range W.length).all (fun j => decide ((n_b T (p + j)).toInt = ((W.getD j 0 : Nat) : Int)))
def w_k (T : gM) (p : Nat) : List (List Nat) → Int → Int
  | [], _ => 260
  | W :: Ws, k => if w_m T p W = true then k else w_k T p Ws (k + 1)
def w_tx : List (List Nat) → List Nat
  | [] => []
  | W :: Ws => W ++ 32 :: w_tx Ws
def w_all : List (List Nat) := [[104, 101, 105, 114], [116, 104, 105, 110, 103], [97, 115], [114, 105, 103, 104, 116], [115, 116, 114, 101, 110, 103, 116, 104], [97, 103, 101], [104, 97, 116, 101, 115], [115, 111, 110, 103], [98, 117, 114, 110, 116], [108, 111, 115, 115], [102, 105, 101, 108, 100], [121, 101, 97, 114], [115, 97, 109, 101], [107, 110, 111, 119, 110], [104, 111, 117, 115, 101], [99, 111, 117, 115, 105, 110, 115], [107, 110, 111, 119, 115], [102, 97, 100, 101], [105, 102], [110, 111, 116], [97, 110, 100], [111, 114]]
theorem w_text : (List.range 116).all (fun j => decide ((g_ch (Int32.ofNat j)).toInt = (((w_tx w_all).getD j 0 : Nat) : Int))) = true ∧ (w_tx w_all).length = 116 := by decide +kernel
theorem w_gch {l : Int32} {q : Nat} (h : l.toInt = (q : Int)) (hq : q < 116) : ∃ c, gch (some 1) l = some c ∧ c.toInt = (((w_tx w_all).getD q 0 : Nat) : Int) := by
  have e : l = Int32.ofNat q := i_of h (by omega)
  have h1 := List.all_eq_true.mp w_text.1 q (List.mem_range.mpr hq)
  refine ⟨g_ch l, ?_, by rw [e]; exact of_decide_eq_true h1⟩
  unfold gch
  rw [if_pos ⟨rfl, gin_of (by omega) (by omega)⟩]
/-- the rest of a word stands behind m letters that stand -/
def w_r (T : gM) (p m : Nat) (W : List Nat) : Bool := (List.range W.length).all (fun j => decide (p + m + j < n_le T p ∧ (n_b T (p + m + j)).toInt = ((W.getD j 0 : Nat) : Int)))
theorem w_r_cons {T : gM} {p m c : Nat} {W : List Nat} : w_r T p m (c :: W) = true ↔ ((p + m < n_le T p ∧ (n_b T (p + m)).toInt = (c : Int)) ∧ w_r T p (m + 1) W = true) := by
  unfold w_r
  rw [List.all_eq_true, List.all_eq_true]
  constructor
  · intro h
    refine ⟨by have := of_decide_eq_true (h 0 (List.mem_range.mpr (by simp))); simpa using this, fun j hj => ?_⟩
    have hj2 := List.mem_range.mp hj
    have := of_decide_eq_true (h (j + 1) (List.mem_range.mpr (by simp; exact hj2)))
    refine decide_eq_true ?_
    rw [show p + (m + 1) + j = p + m + (j + 1) by omega]
    simpa using this
  · rintro ⟨h1, h2⟩ j hj
    cases j with
    | zero =>
      refine decide_eq_true ?_
      simpa using h1
    | succ j =>
      have hj2 := List.mem_range.mp hj
      have := of_decide_eq_true (h2 j (List.mem_range.mpr (by simp at hj2; exact hj2)))
      refine decide_eq_true ?_
      rw [show p + (m + 1) + j = p + m + (j + 1) by omega] at this
      simpa using this
theorem w_r_m {T : gM} {p : Nat} {W : List Nat} : (w_r T p 0 W = true ∧ n_le T p = p + W.length) ↔ w_m T p W = true := by
  unfold w_r w_m
  rw [Bool.and_eq_true, List.all_eq_true, List.all_eq_true, decide_eq_true_iff]
  constructor
  · rintro ⟨h1, h2⟩
    refine ⟨h2, fun j hj => ?_⟩
    have := of_decide_eq_true (h1 j hj)
    exact decide_eq_true this.2
  · rintro ⟨h1, h2⟩
    refine ⟨fun j hj => ?_, h1⟩
    have hj2 := List.mem_range.mp hj
    have := of_decide_eq_true (h2 j hj)
    exact decide_eq_true ⟨by omega, this⟩
theorem C_wordKind_word {T M : gM} (Z : z_T T M) {p : Nat} {l1 l2 : Int32} (h1 : l1.toInt = (p : Int)) (h2 : l2.toInt = (n_le T p : Int)) (hp : p < n_le T p) (hs : n_le T p ≤ n_s T) : ∀ (W : List Nat) (rest : List Nat) (n m q : Nat) {k : Int} {l3 l4 l5 : Int32}, l3.toInt = k → (0 ≤ k ∧ k ≤ 1000) → l5.toInt = (q : Int) → q + (W ++ 32 :: rest).length ≤ 116 → (∀ j, j < (W ++ 32 :: rest).length → (w_tx w_all).getD (q + j) 0 = (W ++ 32 :: rest).getD j 0) → (∀ c, c ∈ W → c ≠ 32 ∧ c < 128) → (l4.toInt = (m : Int) ∨ l4 = -1) → m ≤ q → W.length < n →
    F_X9_wordKind_L10 M n (some 131) l1 l2 l3 l4 l5 = (if l4.toInt = (m : Int) ∧ w_r T p m W = true ∧ n_le T p = p + m + W.length then some l3 else F_X9_wordKind_L10 M (n - W.length - 1) (some 131) l1 l2 (l3 + 1) 0 (Int32.ofNat (q + W.length + 1))) := by
  intro W
  have k1 := Z.1.1.1.1.1.1
  have B := Z.1.2
  have z116 : (116 : Int32).toInt = 116 := rfl
  have z32 : (32 : Int32).toInt = 32 := rfl
  have z0 : (0 : Int32).toInt = 0 := rfl
  have zm : (-1 : Int32).toInt = -1 := rfl
  have a21 := i_sub (x := l2) (y := l1) (by have := B.2; omega) (by have := B.2; omega)
  induction W with
  | nil =>
    intro rest n m q k l3 l4 l5 h3 hk h5 hl ht hc h4 hm hn
    cases n with
    | zero => simp at hn
    | succ n =>
      show F_X9_wordKind_b10 (F_X9_wordKind_L10 M n) M (some 131) l1 l2 l3 l4 l5 = _
      simp at hl
      obtain ⟨c, ec, hc1⟩ := w_gch (l := l5) h5 (by omega)
      have ht0 : (w_tx w_all).getD q 0 = 32 := ht 0 (by simp)
      have c32 : c = 32 := Int32.toInt_inj.mp (by rw [hc1, z32, ht0]; rfl)
      delta F_X9_wordKind_b10 F_X9_wordKind_b90 F_X9_wordKind_b87
      rw [if_neg (fun z => by have := i_le z; omega), ec, Option.bind_some, if_pos c32]
      have wr : w_r T p m [] = true := rfl
      by_cases e : l4 = l2 - l1
      · have e' := i_eq e
        have hm1 : l4.toInt = (m : Int) := by
          rcases h4 with h4 | h4
          · exact h4
          · rw [h4, zm] at e'
            omega
        rw [if_pos e, if_pos ⟨hm1, wr, by simp; omega⟩]
      · have e' := i_ne e
        rw [if_neg e, if_neg (fun z => e' (by have := z.2.2; simp at this; omega))]
        show F_X9_wordKind_L10 M n (some 131) l1 l2 (l3 + 1) 0 (l5 + 1) = F_X9_wordKind_L10 M (n + 1 - 0 - 1) (some 131) l1 l2 (l3 + 1) 0 (Int32.ofNat (q + 0 + 1))
        rw [show (l5 + 1 : Int32) = Int32.ofNat (q + 1) from n_inc h5 (by omega)]
        rfl
  | cons w W ih =>
    intro rest n m q k l3 l4 l5 h3 hk h5 hl ht hc h4 hm hn
    cases n with
    | zero => simp at hn
    | succ n =>
      show F_X9_wordKind_b10 (F_X9_wordKind_L10 M n) M (some 131) l1 l2 l3 l4 l5 = _
      simp at hl hn
      obtain ⟨c, ec, hc1⟩ := w_gch (l := l5) h5 (by omega)
      have ht0 : (w_tx w_all).getD q 0 = w := ht 0 (by simp)
      have cw : c.toInt = (w : Int) := by rw [hc1, ht0]
      have w32 := hc w List.mem_cons_self
      have inc : (l5 + 1 : Int32) = Int32.ofNat (q + 1) := n_inc h5 (by omega)
      have i5 : (l5 + 1 : Int32).toInt = ((q + 1 : Nat) : Int) := by rw [inc, i_ofNat (by omega)]
      have ht' : ∀ j, j < (W ++ 32 :: rest).length → (w_tx w_all).getD (q + 1 + j) 0 = (W ++ 32 :: rest).getD j 0 := by
        intro j hj
        have := ht (j + 1) (by simp at hj ⊢; omega)
        rw [show q + 1 + j = q + (j + 1) by omega, this]
        rfl
      have go : ∀ {l : Int32} (m2 : Nat), (l.toInt = (m2 : Int) ∨ l = -1) → m2 ≤ q + 1 → F_X9_wordKind_L10 M n (some 131) l1 l2 l3 l (l5 + 1) = (if l.toInt = (m2 : Int) ∧ w_r T p m2 W = true ∧ n_le T p = p + m2 + W.length then some l3 else F_X9_wordKind_L10 M (n - W.length - 1) (some 131) l1 l2 (l3 + 1) 0 (Int32.ofNat (q + 1 + W.length + 1))) := by
        intro l m2 hl2 hm2
        exact ih rest n m2 (q + 1) h3 hk i5 (by simp; omega) ht' (fun c hc2 => hc c (List.mem_cons_of_mem _ hc2)) hl2 hm2 (by omega)
      have en : n + 1 - (w :: W).length - 1 = n - W.length - 1 := by simp
      have eq : q + (w :: W).length + 1 = q + 1 + W.length + 1 := by simp; omega
      rw [en, eq]
      have fail : ¬ (l4.toInt = (m : Int) ∧ w_r T p m (w :: W) = true ∧ n_le T p = p + m + (w :: W).length) → F_X9_wordKind_L10 M n (some 131) l1 l2 l3 (-1 : Int32) (l5 + 1) = (if l4.toInt = (m : Int) ∧ w_r T p m (w :: W) = true ∧ n_le T p = p + m + (w :: W).length then some l3 else F_X9_wordKind_L10 M (n - W.length - 1) (some 131) l1 l2 (l3 + 1) 0 (Int32.ofNat (q + 1 + W.length + 1))) := by
        intro hf
        rw [if_neg hf, go (m + 1) (Or.inr rfl) (by omega), if_neg (fun z => by have := z.1; rw [zm] at this; omega)]
      delta F_X9_wordKind_b10 F_X9_wordKind_b90 F_X9_wordKind_b87
      rw [if_neg (fun z => by have := i_le z; omega), ec, Option.bind_some, if_neg (fun z => w32.1 (by rw [z, z32] at cw; omega))]
      rcases h4 with h4 | h4
      · rw [if_neg (fun z => by have := i_lt z; omega)]
        have a1 := i_add (x := l1) (y := l4) (by have := B.2; omega) (by have := B.2; omega)
        have pm : (l1 + l4).toInt = ((p + m : Nat) : Int) := by omega
        by_cases c1 : l2 ≤ l1 + l4
        · have := i_le c1
          rw [if_pos c1]
          exact fail (fun z => by have := (w_r_cons.mp z.2.1).1.1; omega)
        · have d1 := i_nle c1
          have hlt : p + m < n_s T := by omega
          have hr := n_ca_r B hlt
          have hb := B.1 (p + m)
          rw [if_neg c1, t_gO k1, Option.bind_some, C_byteAt Z pm, Option.bind_some]
          by_cases e : n_ca T (p + m) = c
          · have e' := i_eq e
            have eb : (n_b T (p + m)).toInt = (w : Int) := by
              rw [cw] at e'
              rw [hr] at e'
              split at e' <;> omega
            rw [if_pos e, go (m + 1) (Or.inl (by rw [show (l4 + 1 : Int32) = Int32.ofNat (m + 1) from n_inc h4 (by omega), i_ofNat (by omega)])) (by omega)]
            have i4 : (l4 + 1 : Int32).toInt = ((m + 1 : Nat) : Int) := by rw [show (l4 + 1 : Int32) = Int32.ofNat (m + 1) from n_inc h4 (by omega), i_ofNat (by omega)]
            by_cases d : w_r T p (m + 1) W = true ∧ n_le T p = p + (m + 1) + W.length
            · rw [if_pos ⟨i4, d⟩, if_pos ⟨h4, w_r_cons.mpr ⟨⟨by omega, eb⟩, d.1⟩, by rw [d.2]; simp; omega⟩]
            · rw [if_neg (fun z => d z.2), if_neg (fun z => d ⟨(w_r_cons.mp z.2.1).2, by have := z.2.2; simp at this; omega⟩)]
          · rw [if_neg e]
            refine fail (fun z => e (Int32.toInt_inj.mp ?_))
            have eb := (w_r_cons.mp z.2.1).1.2
            rw [hr, cw, eb, if_pos (by omega)]
      · rw [if_pos (by rw [h4]; decide)]
        exact fail (fun z => by have := z.1; rw [h4, zm] at this; omega)
theorem C_wordKind_L10 {T M : gM} (Z : z_T T M) {p : Nat} {l1 l2 : Int32} (h1 : l1.toInt = (p : Int)) (h2 : l2.toInt = (n_le T p : Int)) (hp : p < n_le T p) (hs : n_le T p ≤ n_s T) : ∀ (Ws : List (List Nat)) (n q : Nat) {k : Int} {l3 l5 : Int32}, l3.toInt = k → (0 ≤ k ∧ k + Ws.length ≤ 1000) → l5.toInt = (q : Int) → q + (w_tx Ws).length = 116 → (∀ j, j < (w_tx Ws).length → (w_tx w_all).getD (q + j) 0 = (w_tx Ws).getD j 0) → (∀ W, W ∈ Ws → ∀ c, c ∈ W → c ≠ 32 ∧ c < 128) → (w_tx Ws).length < n →
    Ok (F_X9_wordKind_L10 M n (some 131) l1 l2 l3 0 l5) (fun v => v.toInt = w_k T p Ws k) := by
  intro Ws
  induction Ws with
  | nil =>
    intro n q k l3 l5 h3 hk h5 hl ht hc hn
    cases n with
    | zero => simp [w_tx] at hn
    | succ n =>
      show Ok (F_X9_wordKind_b10 (F_X9_wordKind_L10 M n) M (some 131) l1 l2 l3 0 l5) _
      simp [w_tx] at hl
      have z116 : (116 : Int32).toInt = 116 := rfl
      delta F_X9_wordKind_b10
      refine Ok_t (Int32.le_iff_toInt_le.mpr (by omega)) ?_
      exact Ok_s rfl
  | cons W Ws ih =>
    intro n q k l3 l5 h3 hk h5 hl ht hc hn
    have el : (w_tx (W :: Ws)).length = W.length + 1 + (w_tx Ws).length := by
      show (W ++ 32 :: w_tx Ws).length = _
      simp
      omega
    simp at hk
    rw [C_wordKind_word Z h1 h2 hp hs W (w_tx Ws) n 0 q h3 (by omega) h5 (by show q + (w_tx (W :: Ws)).length ≤ 116; omega) ht (hc W List.mem_cons_self) (Or.inl rfl) (by omega) (by omega)]
    unfold w_k
    by_cases d : w_m T p W = true
    · have d2 := w_r_m.mpr d
      rw [if_pos ⟨rfl, d2.1, by rw [d2.2]; omega⟩, if_pos d]
      exact Ok_s h3
    · rw [if_neg (fun z => d (w_r_m.mp ⟨z.2.1, by rw [z.2.2]; omega⟩)), if_neg d]
      have a3 := i_addc (x := l3) (c := (1 : Int32)) (n := 1) rfl (by omega) (by omega)
      refine ih (n - W.length - 1) (q + W.length + 1) (by rw [a3, h3]) (by omega) (i_ofNat (by omega)) (by omega) (fun j hj => ?_) (fun W2 h2 => hc W2 (List.mem_cons_of_mem _ h2)) (by omega)
      have := ht (W.length + 1 + j) (by omega)
      rw [show q + W.length + 1 + j = q + (W.length + 1 + j) by omega, this]
      show (W ++ 32 :: w_tx Ws).getD (W.length + 1 + j) 0 = _
      rw [List.getD_eq_getElem?_getD, List.getD_eq_getElem?_getD, List.getElem?_append_right (by omega), show W.length + 1 + j - W.length = j + 1 by omega]
      rfl
/-- the kind of the word at a place -/
def k_w (T : gM) (p : Nat) : Int := w_k T p w_all 261
theorem C_wordKind {T M : gM} (Z : z_T T M) {p : Nat} {l1 l2 : Int32} (h1 : l1.toInt = (p : Int)) (h2 : l2.toInt = (n_le T p : Int)) (hp : p < n_le T p) (hs : n_le T p ≤ n_s T) : Ok (F_X9_wordKind (some 131) l1 l2 M) (fun v => v.toInt = k_w T p) := by
  delta F_X9_wordKind F_X9_wordKind_b0
  have e := w_text.2
  exact C_wordKind_L10 Z h1 h2 hp hs w_all _ 0 rfl ⟨by decide, by decide⟩ rfl (by rw [e]) (fun j hj => by rw [Nat.zero_add]) (by decide) (by rw [e]; exact n_fu (by decide))
-- 63.pack
/-! eight letters in one number -/
def d_v (f : Nat → Nat) : Nat → Nat
  | 0 => 0
  | n + 1 => d_v f n * 256 + f n
theorem d_lt {f : Nat → Nat} : ∀ n, (∀ j, j < n → f j < 256) → d_v f n < 256 ^ n := by
  intro n
  induction n with
  | zero => intro _; exact Nat.zero_lt_one
  | succ n ih =>
    intro h
    have h1 := ih (fun j hj => h j (by omega))
    have h2 := h n (by omega)
    show d_v f n * 256 + f n < 256 ^ (n + 1)
    rw [Nat.pow_succ]
    omega
theorem d_inj {f g : Nat → Nat} : ∀ k l, (∀ j, j < k → 0 < f j ∧ f j < 256) → (∀ j, j < l → 0 < g j ∧ g j < 256) → d_v f k = d_v g l → k = l ∧ ∀ j, j < k → f j = g j := by
  intro k
  induction k with
  | zero =>
    intro l _ hg h
    cases l with
    | zero => exact ⟨rfl, fun j hj => absurd hj (Nat.not_lt_zero _)⟩
    | succ l =>
      have h1 : 0 = d_v g l * 256 + g l := h
      have := (hg l (by omega)).1
      omega
  | succ k ih =>
    intro l hf hg h
    cases l with
    | zero =>
      have h1 : d_v f k * 256 + f k = 0 := h
      have := (hf k (by omega)).1
      omega
    | succ l =>
      have h1 : d_v f k * 256 + f k = d_v g l * 256 + g l := h
      have a := (hf k (by omega)).2
      have b := (hg l (by omega)).2
      have e1 : f k = g l := by omega
      have e2 : d_v f k = d_v g l := by omega
      obtain ⟨e3, e4⟩ := ih l (fun j hj => hf j (by omega)) (fun j hj => hg j (by omega)) e2
      subst e3
      refine ⟨rfl, fun j hj => ?_⟩
      rcases Nat.lt_or_ge j k with h2 | h2
      · exact e4 j h2
      · have : j = k := by omega
        rw [this]
        exact e1
theorem j_step {x : Int64} {c : Int32} {v d : Nat} (hx : x.toBitVec.toNat = v) (hv : v < 256 ^ 7) (hc : c.toInt = (d : Int)) (hd : d < 256) : ((x <<< ((8 : Int32).toInt64 &&& 63)) ||| c.toInt64).toBitVec.toNat = v * 256 + d := by
  have e1 : (x <<< ((8 : Int32).toInt64 &&& 63)).toBitVec.toNat = v * 256 := by
    rw [Int64.toBitVec_shiftLeft]
    have e8 : (((8 : Int32).toInt64 &&& 63).toBitVec.smod 64) = 8#64 := by decide
    rw [e8]
    show (x.toBitVec <<< (8#64).toNat).toNat = _
    rw [BitVec.toNat_shiftLeft, hx, Nat.shiftLeft_eq]
    have : (8#64).toNat = 8 := rfl
    rw [this]
    refine Nat.mod_eq_of_lt ?_
    have : (256 : Nat) ^ 7 = 72057594037927936 := by decide
    omega
  have e2 : c.toInt64.toBitVec.toNat = d := by
    have h : c.toInt64.toInt = (d : Int) := (Int32.toInt_toInt64 c).trans hc
    have h2 : c.toInt64.toBitVec.toInt = (d : Int) := h
    rw [BitVec.toInt_eq_toNat_cond] at h2
    have := c.toInt64.toBitVec.isLt
    split at h2 <;> omega
  rw [Int64.toBitVec_or, BitVec.toNat_or, e1, e2]
  have h3 := Nat.shiftLeft_add_eq_or_of_lt (show d < 2 ^ 8 by omega) v
  rw [Nat.shiftLeft_eq] at h3
  exact h3.symm
theorem n_ac_v {b : Nat → Int32} {p : Nat} : ∀ n, n ≤ 8 → (∀ j, j < n → 0 ≤ (b (p + j)).toInt ∧ (b (p + j)).toInt < 256) → (n_ac b p n).toBitVec.toNat = d_v (fun j => (b (p + j)).toInt.toNat) n := by
  intro n
  induction n with
  | zero => intro _ _; rfl
  | succ n ih =>
    intro hn h
    have h1 := ih (by omega) (fun j hj => h j (by omega))
    have h2 := h n (by omega)
    have h3 := d_lt (f := fun j => (b (p + j)).toInt.toNat) n (fun j hj => by have := h j (by omega); omega)
    have h4 : (256 : Nat) ^ n ≤ 256 ^ 7 := Nat.pow_le_pow_right (by decide) (by omega)
    exact j_step (d := (b (p + n)).toInt.toNat) h1 (by omega) (by omega) (by omega)
/-- the words as numbers -/
def w_pk (W : List Nat) : Nat := d_v (fun j => W.getD j 0) W.length
theorem w_pack {T : gM} {p : Nat} {W : List Nat} {w : Int64} (hw : w.toBitVec.toNat = w_pk W) (hl : 0 < W.length ∧ W.length ≤ 8) (hc : ∀ j, j < W.length → 0 < W.getD j 0 ∧ W.getD j 0 < 256) : n_w T p w = w_m T p W := by
  rw [Bool.eq_iff_iff]
  unfold n_w w_m
  rw [decide_eq_true_iff, Bool.and_eq_true, decide_eq_true_iff, List.all_eq_true]
  have lt : ∀ j, j < n_le T p - p → n_L T (p + j) = true := fun j hj => n_run_in _ _ (p + j) (by omega) (show p + j < n_le T p by omega)
  have lr : ∀ j, j < n_le T p - p → 97 ≤ (n_b T (p + j)).toInt ∧ (n_b T (p + j)).toInt ≤ 122 := fun j hj => (of_decide_eq_true (lt j hj)).2
  constructor
  · rintro ⟨h1, h2, h3⟩
    have hv := n_ac_v (b := n_b T) (p := p) (n_le T p - p) (by omega) (fun j hj => by have := lr j hj; omega)
    rw [h3, hw] at hv
    obtain ⟨e1, e2⟩ := d_inj (f := fun j => W.getD j 0) (g := fun j => (n_b T (p + j)).toInt.toNat) W.length (n_le T p - p) hc (fun j hj => by have := lr j hj; omega) hv
    refine ⟨by omega, fun j hj => decide_eq_true ?_⟩
    have hj2 := List.mem_range.mp hj
    have := e2 j hj2
    have h9 := lr j (by omega)
    omega
  · rintro ⟨h1, h2⟩
    refine ⟨by omega, by omega, ?_⟩
    have hk : n_le T p - p = W.length := by omega
    have hv := n_ac_v (b := n_b T) (p := p) (n_le T p - p) (by omega) (fun j hj => by have := lr j hj; omega)
    apply Int64.toBitVec_inj.mp
    apply BitVec.eq_of_toNat_eq
    rw [hv, hw, hk]
    unfold w_pk
    have : ∀ n, n ≤ W.length → d_v (fun j => (n_b T (p + j)).toInt.toNat) n = d_v (fun j => W.getD j 0) n := by
      intro n
      induction n with
      | zero => intro _; rfl
      | succ n ih =>
        intro hn
        have := of_decide_eq_true (h2 n (List.mem_range.mpr (by omega)))
        show d_v _ n * 256 + (n_b T (p + n)).toInt.toNat = d_v _ n * 256 + W.getD n 0
        rw [ih (by omega), this]
        rfl
    exact this _ (Nat.le_refl _)
theorem w_m_one {T : gM} {p : Nat} {V W : List Nat} (h1 : w_m T p V = true) (h2 : w_m T p W = true) : V = W := by
  unfold w_m at h1 h2
  rw [Bool.and_eq_true, decide_eq_true_iff, List.all_eq_true] at h1 h2
  have hl : V.length = W.length := by omega
  refine List.ext_getElem hl (fun i hi1 hi2 => ?_)
  have a := of_decide_eq_true (h1.2 i (List.mem_range.mpr hi1))
  have b := of_decide_eq_true (h2.2 i (List.mem_range.mpr hi2))
  rw [List.getD_eq_getElem?_getD, List.getElem?_eq_getElem hi1] at a
  rw [List.getD_eq_getElem?_getD, List.getElem?_eq_getElem hi2] at b
  simp at a b
  omega
theorem w_k_spec {T : gM} {p : Nat} : ∀ (Ws : List (List Nat)) (k : Int), (∃ i, i < Ws.length ∧ w_k T p Ws k = k + i ∧ w_m T p (Ws.getD i []) = true) ∨ (w_k T p Ws k = 260 ∧ ∀ i, i < Ws.length → w_m T p (Ws.getD i []) = false) := by
  intro Ws
  induction Ws with
  | nil => intro k; exact Or.inr ⟨rfl, fun i hi => absurd hi (Nat.not_lt_zero _)⟩
  | cons W Ws ih =>
    intro k
    unfold w_k
    by_cases d : w_m T p W = true
    · rw [if_pos d]
      exact Or.inl ⟨0, by simp, by simp, d⟩
    · rw [if_neg d]
      rcases ih (k + 1) with ⟨i, h1, h2, h3⟩ | ⟨h1, h2⟩
      · exact Or.inl ⟨i + 1, by simp; exact h1, by rw [h2]; push_cast; omega, h3⟩
      · refine Or.inr ⟨h1, fun i hi => ?_⟩
        cases i with
        | zero => simpa using d
        | succ i => exact h2 i (by simp at hi; exact hi)
theorem w_nodup : ∀ i : Fin 22, ∀ j : Fin 22, w_all.getD i.val [] = w_all.getD j.val [] → i = j := by decide +kernel
/-- the word at a place is the i-th -/
theorem k_w_iff {T : gM} {p i : Nat} (hi : i < 22) : k_w T p = 261 + (i : Int) ↔ w_m T p (w_all.getD i []) = true := by
  unfold k_w
  rcases w_k_spec (T := T) (p := p) w_all 261 with ⟨j, h1, h2, h3⟩ | ⟨h1, h2⟩
  · rw [h2]
    have hj : j < 22 := h1
    constructor
    · intro h
      have : j = i := by omega
      rw [← this]
      exact h3
    · intro h
      have := w_nodup ⟨i, hi⟩ ⟨j, hj⟩ (w_m_one h h3)
      have : i = j := congrArg Fin.val this
      omega
  · rw [h1]
    constructor
    · intro h
      omega
    · intro h
      rw [h2 i hi] at h
      cases h
theorem k_w_r {T : gM} {p : Nat} : 260 ≤ k_w T p ∧ k_w T p ≤ 282 := by
  unfold k_w
  rcases w_k_spec (T := T) (p := p) w_all 261 with ⟨j, h1, h2, h3⟩ | ⟨h1, h2⟩
  · have hj : j < 22 := h1
    omega
  · omega
theorem w_lens : ∀ i : Fin 22, (0 < (w_all.getD i.val []).length ∧ (w_all.getD i.val []).length ≤ 8) ∧ ∀ j : Fin 8, j.val < (w_all.getD i.val []).length → 0 < (w_all.getD i.val []).getD j.val 0 ∧ (w_all.getD i.val []).getD j.val 0 < 256 := by decide +kernel
/-- the reference's number of the i-th word -/
theorem w_num {T : gM} {p i : Nat} {w : Int64} (hi : i < 22) (hw : w.toBitVec.toNat = w_pk (w_all.getD i [])) : (n_w T p w = true ↔ k_w T p = 261 + (i : Int)) := by
  have h := w_lens ⟨i, hi⟩
  rw [k_w_iff hi, w_pack hw h.1 (fun j hj => h.2 ⟨j, by have := h.1.2; dsimp only at this; omega⟩ hj)]
-- 64.split
/-! the bytes are split: the pieces are the signs from place to place -/
def k_two (T : gM) (p : Nat) : Bool := decide ((n_ca T p = 60 ∨ n_ca T p = 62) ∧ n_ca T (p + 1) = 61)
def k_kind (T : gM) (p : Nat) : Int := if n_s T ≤ p then 256 else if n_L T p = true then k_w T p else if n_D T p = true then 257 else if k_two T p = true then (if n_ca T p = 60 then 258 else 259) else (n_ca T p).toInt
def k_end (T : gM) (p : Nat) : Nat := if n_L T p = true then n_le T p else if n_D T p = true then n_de T p else if k_two T p = true then p + 2 else p + 1
def k_v0 (T : gM) (p : Nat) : Int32 := if n_D T p = true then k_val T p else 0
def k_nx (T : gM) (p : Nat) : Nat := n_sk T (k_end T p)
def k_pl (T : gM) : Nat → Nat
  | 0 => n_sk T 0
  | j + 1 => k_nx T (k_pl T j)
theorem k_two_lt {T : gM} {p : Nat} (h : k_two T p = true) : p + 1 < n_s T := by
  have h1 := (of_decide_eq_true h).2
  rcases Nat.lt_or_ge (p + 1) (n_s T) with e | e
  · exact e
  · rw [n_ca_end e] at h1
    exact absurd h1 (by decide)
theorem k_end_r {T : gM} {p : Nat} (h : p < n_s T) : p < k_end T p ∧ k_end T p ≤ n_s T := by
  unfold k_end
  by_cases c1 : n_L T p = true
  · rw [if_pos c1, n_le_step c1]
    have := n_le_le (M := T) (p := p + 1) (by omega)
    omega
  · rw [if_neg c1]
    by_cases c2 : n_D T p = true
    · rw [if_pos c2, n_de_step c2]
      have := n_de_le (M := T) (p := p + 1) (by omega)
      omega
    · rw [if_neg c2]
      by_cases c3 : k_two T p = true
      · rw [if_pos c3]
        have := k_two_lt c3
        omega
      · rw [if_neg c3]
        omega
theorem k_nx_r {T : gM} {p : Nat} (h : p < n_s T) : p < k_nx T p ∧ k_nx T p ≤ n_s T := by
  have h1 := k_end_r h
  have h2 := n_sk_le (M := T) (p := k_end T p) h1.2
  unfold k_nx
  omega
/-- what the readers write -/
def z_W (i k : Nat) : Prop := (i = 131 ∧ (k = 4 ∨ k = 5 ∨ k = 7)) ∨ (i = 133 ∨ i = 134 ∨ i = 135) ∨ (i = 148 ∧ (k = 3 ∨ k = 4 ∨ k = 5)) ∨ i = 149 ∨ i = 150
def z_Fr (M M' : gM) : Prop := (M'.1 = M.1 ∧ M'.2.2.1 = M.2.2.1 ∧ M'.2.2.2 = M.2.2.2) ∧ ∀ i k, ¬ z_W i k → M'.2.1 i k = M.2.1 i k
theorem z_rf {M : gM} : z_Fr M M := ⟨⟨rfl, rfl, rfl⟩, fun _ _ _ => rfl⟩
theorem z_tr {M M1 M2 : gM} (h1 : z_Fr M M1) (h2 : z_Fr M1 M2) : z_Fr M M2 := ⟨⟨h2.1.1.trans h1.1.1, h2.1.2.1.trans h1.1.2.1, h2.1.2.2.trans h1.1.2.2⟩, fun i k h => (h2.2 i k h).trans (h1.2 i k h)⟩
theorem z_up {M : gM} {i k : Nat} {v : Int32} (h : z_W i k) : z_Fr M (mI M i k v) := ⟨⟨rfl, rfl, rfl⟩, fun j a hj => mI_ne (by
  by_cases e : j = i
  · refine Or.inr (fun e2 => hj ?_)
    subst e
    subst e2
    exact h
  · exact Or.inl e)⟩
theorem z_Lm {M M' : gM} (h : z_L M) (f : z_Fr M M') : z_L M' := by
  have hk : ∀ i, g_k M' i = g_k M i := fun i => q_k_of f.1.1
  unfold z_L at h ⊢
  simp only [hk, f.1.2.2]
  exact h
theorem z_Tm {T M M' : gM} (Z : z_T T M) (f : z_Fr M M') : z_T T M' := by
  refine ⟨⟨z_Lm Z.1.1 f, Z.1.2⟩, ?_, ?_⟩
  · rw [← Z.2.1]
    exact funext (fun k => f.2 132 k (by unfold z_W; omega))
  · rw [f.2 131 6 (by unfold z_W; omega)]
    exact Z.2.2
/-- j pieces stand -/
def z_P (T M : gM) (j : Nat) : Prop := (M.2.1 131 4).toInt = (j : Int) ∧ ∀ i, i < j → ((M.2.1 133 i).toInt = k_kind T (k_pl T i) ∧ (M.2.1 134 i).toInt = (k_pl T i : Int)) ∧ M.2.1 135 i = k_v0 T (k_pl T i)
theorem C_add {T M : gM} {j x : Nat} {l1 l2 l3 : Int32} (Z : z_T T M) (P : z_P T M j) (hj : j ≤ 400) (hx : k_pl T j = x) (h1 : l1.toInt = k_kind T x) (h2 : l2.toInt = (x : Int)) (h3 : l3 = k_v0 T x) : Ok (F_X9_add (some 131) l1 l2 l3 M) (fun M' => z_Fr M M' ∧ z_P T M' (j + 1) ∧ (M'.2.1 131 5 = M.2.1 131 5 ∧ M'.2.1 131 7 = M.2.1 131 7)) := by
  obtain ⟨⟨⟨⟨⟨⟨k1, k2⟩, ⟨k3, k4⟩, k5⟩, _⟩, ⟨⟨r0, r1⟩, r2, r3⟩, _⟩, B⟩, eb, es⟩ := Z
  obtain ⟨p1, p2⟩ := P
  have cj : (M.2.1 131 4).toNatClampNeg = j := i_cl p1
  have i401 : (Int32.ofNat 401).toInt = 401 := rfl
  delta F_X9_add F_X9_add_b0
  rw [t_gI k1, Option.bind_some, t_gR k1 r1, Option.bind_some, t_aN k3 (by decide), Option.bind_some, if_neg (fun z => by have := i_le z; omega)]
  rw [Option.bind_some, Option.bind_some, t_sI k3 (by omega) (by omega), Option.bind_some, cj]
  obtain ⟨M6, e6⟩ : ∃ M6, M6 = mI M 133 j l1 := ⟨_, rfl⟩
  rw [← e6]
  have a6 : M6.2.1 131 4 = M.2.1 131 4 := by rw [e6]; exact mI_ne (Or.inl (by decide))
  have g6 : g_k M6 131 = (9, 0) ∧ g_k M6 134 = (20, 401) := by rw [e6]; exact ⟨k1, k4⟩
  have r6 : M6.2.2.2 131 2 = some 134 := by rw [e6]; exact r2
  rw [t_gR g6.1 r6, Option.bind_some, t_gI g6.1, Option.bind_some, a6, t_sI g6.2 (by omega) (by omega), Option.bind_some, cj]
  obtain ⟨M9, e9⟩ : ∃ M9, M9 = mI M6 134 j l2 := ⟨_, rfl⟩
  rw [← e9]
  have a9 : M9.2.1 131 4 = M.2.1 131 4 := by rw [e9, mI_ne (Or.inl (by decide)), a6]
  have g9 : g_k M9 131 = (9, 0) ∧ g_k M9 135 = (20, 401) := by rw [e9, e6]; exact ⟨k1, k5⟩
  have r9 : M9.2.2.2 131 3 = some 135 := by rw [e9, e6]; exact r3
  rw [t_gR g9.1 r9, Option.bind_some, t_gI g9.1, Option.bind_some, a9, t_sI g9.2 (by omega) (by omega), Option.bind_some, cj]
  obtain ⟨M12, e12⟩ : ∃ M12, M12 = mI M9 135 j l3 := ⟨_, rfl⟩
  rw [← e12]
  have a12 : M12.2.1 131 4 = M.2.1 131 4 := by rw [e12, mI_ne (Or.inl (by decide)), a9]
  have g12 : g_k M12 131 = (9, 0) := by rw [e12, e9, e6]; exact k1
  rw [t_gI g12, Option.bind_some, t_pI g12, Option.bind_some, a12, n_inc p1 (by omega)]
  have fr : z_Fr M (mI M12 131 4 (Int32.ofNat (j + 1))) := by
    refine z_tr ?_ (z_up (by unfold z_W; omega))
    rw [e12]
    refine z_tr ?_ (z_up (by unfold z_W; omega))
    rw [e9]
    refine z_tr ?_ (z_up (by unfold z_W; omega))
    rw [e6]
    exact z_up (by unfold z_W; omega)
  have b3 : ∀ i, (mI M12 131 4 (Int32.ofNat (j + 1))).2.1 133 i = (mI M 133 j l1).2.1 133 i := fun i => by rw [mI_ne (Or.inl (by decide)), e12, mI_ne (Or.inl (by decide)), e9, mI_ne (Or.inl (by decide)), e6]
  have b4 : ∀ i, (mI M12 131 4 (Int32.ofNat (j + 1))).2.1 134 i = (mI M6 134 j l2).2.1 134 i := fun i => by rw [mI_ne (Or.inl (by decide)), e12, mI_ne (Or.inl (by decide)), e9]
  have b5 : ∀ i, (mI M12 131 4 (Int32.ofNat (j + 1))).2.1 135 i = (mI M9 135 j l3).2.1 135 i := fun i => by rw [mI_ne (Or.inl (by decide)), e12]
  refine Ok_s ⟨fr, ⟨by rw [y_mI1, i_ofNat (by omega)], fun i hi => ?_⟩, ?_⟩
  · rw [b3, b4, b5]
    rcases Nat.lt_or_ge i j with h | h
    · rw [mI_ne (Or.inr (by omega)), mI_ne (Or.inr (by omega)), mI_ne (Or.inr (by omega)), e9, mI_ne (Or.inl (by decide)), e6, mI_ne (Or.inl (by decide)), mI_ne (Or.inl (by decide))]
      exact p2 i h
    · have e : i = j := by omega
      subst e
      rw [y_mI1, y_mI1, y_mI1, hx]
      exact ⟨⟨h1, h2⟩, h3⟩
  · have o : ∀ k, k ≠ 4 → (mI M12 131 4 (Int32.ofNat (j + 1))).2.1 131 k = M.2.1 131 k := fun k hk => by rw [mI_ne (Or.inr hk), e12, mI_ne (Or.inl (by decide)), e9, mI_ne (Or.inl (by decide)), e6, mI_ne (Or.inl (by decide))]
    exact ⟨o 5 (by decide), o 7 (by decide)⟩
/-- N pieces ahead of the end -/
def z_E (T : gM) (N : Nat) : Prop := k_pl T N = n_s T ∧ ∀ i, i < N → k_pl T i < n_s T
def z_Sp (T M : gM) : gM → Prop := fun M' => z_Fr M M' ∧ (∃ N, z_E T N ∧ z_P T M' (N + 1)) ∧ (M'.2.1 131 5 = M.2.1 131 5 ∧ M'.2.1 131 7 = M.2.1 131 7)
theorem C_split_L19 {T : gM} : ∀ (n x i j : Nat) {l1 l2 : Int32} {M : gM}, z_T T M → z_P T M j → l1.toInt = (x : Int) → x ≤ n_s T → l2.toInt = (i : Int) → i ≤ x → j ≤ x → n_sk T x = k_pl T j → (∀ i, i < j → k_pl T i < n_s T) → n_s T - x < n → Ok (F_X9_split_L19 n (some 131) l1 l2 M) (z_Sp T M) := by
  intro n
  induction n with
  | zero => intro x i j l1 l2 M Z P h1 h2 h3 h4 h5 h6 h7 h8; omega
  | succ n ih =>
    intro x i j l1 l2 M Z P h1 h2 h3 h4 h5 h6 h7 h8
    show Ok (F_X9_split_b19 (F_X9_split_L19 n) (some 131) l1 l2 M) _
    have k1 := Z.1.1.1.1.1.1
    have B := Z.1.2
    have es := Z.2.2
    have hb := B.2
    have z4 : (400 : Int32).toInt = 400 := rfl
    have ended : n_s T ≤ x → Ok (F_X9_split_b187 (some 131) M) (z_Sp T M) := by
      intro h
      have ex : x = n_s T := by omega
      have esk : n_sk T x = x := n_sk_stop (fun z => by have := (of_decide_eq_true z).1; omega)
      have ep : k_pl T j = n_s T := by rw [← h6, esk, ex]
      delta F_X9_split_b187
      rw [t_gI k1, Option.bind_some, t_gO k1, Option.bind_some]
      refine Ok_b (C_add Z P (by omega) ep ?_ es ?_) (fun M3 z => ?_)
      · unfold k_kind
        rw [if_pos (Nat.le_refl _)]
        rfl
      · unfold k_v0
        rw [if_neg (fun z => by have := (of_decide_eq_true z).1; omega)]
      · exact Ok_s ⟨z.1, ⟨j, ⟨ep, h7⟩, z.2.1⟩, z.2.2⟩
    delta F_X9_split_b19
    refine Ok_i (fun c => ended (by have := i_le c; omega)) (fun c => ?_)
    rw [t_gI k1, Option.bind_some]
    refine Ok_i (fun c2 => ended (by have := i_le c2; omega)) (fun c2 => ?_)
    have hlt : x < n_s T := by have := i_nle c2; omega
    rw [t_gO k1, Option.bind_some, C_byteAt Z h1, Option.bind_some, C_isLetterAt B, Option.bind_some]
    -- a piece at x, and on behind it
    have piece : ∀ {k w e : Int32}, n_B T x ≠ true → k.toInt = k_kind T x → w = k_v0 T x → e.toInt = (k_end T x : Int) → Ok ((F_X9_add (some 131) k l1 w M).bind fun M2 => F_X9_split_L19 n (some 131) e (l2 + 1) M2) (z_Sp T M) := by
      intro k w e hB hk hw he
      have ep : k_pl T j = x := by rw [← h6, n_sk_stop hB]
      have ke := k_end_r hlt
      refine Ok_b (C_add Z P (by omega) ep hk h1 hw) (fun M2 z => ?_)
      refine Ok_w (ih (k_end T x) (i + 1) (j + 1) (z_Tm Z z.1) z.2.1 he ke.2 (by rw [show (l2 + 1 : Int32) = Int32.ofNat (i + 1) from n_inc h3 (by omega), i_ofNat (by omega)]) (by omega) (by omega) ?_ (fun a ha => ?_) (by omega)) (fun M3 q => ?_)
      · show n_sk T (k_end T x) = k_nx T (k_pl T j)
        rw [ep]
        rfl
      · rcases Nat.lt_or_ge a j with h | h
        · exact h7 a h
        · have : a = j := by omega
          rw [this, ep]
          exact hlt
      · exact ⟨z_tr z.1 q.1, q.2.1, q.2.2.1.trans z.2.2.1, q.2.2.2.trans z.2.2.2⟩
    have b178 : ∀ {M1 : gM} {e : Int32}, F_X9_split_b178 (F_X9_split_L19 n) (some 131) l2 e M1 = F_X9_split_L19 n (some 131) e (l2 + 1) M1 := fun {M1 e} => rfl
    by_cases cL : n_L T x = true
    · have hw := n_LD cL
      rw [if_pos cL, if_neg (by decide)]
      delta F_X9_split_b54
      rw [t_gO k1, Option.bind_some]
      refine Ok_b (C_endOfRun Z h1 true cL) (fun v2 hv => ?_)
      have ele : n_re T true x = n_le T x := rfl
      rw [ele] at hv
      have ke : k_end T x = n_le T x := by unfold k_end; rw [if_pos cL]
      delta F_X9_split_b65
      rw [C_isLetterAt B, Option.bind_some, if_pos cL, if_neg (by decide), t_gO k1, Option.bind_some]
      have kr := k_end_r hlt
      refine Ok_b (C_wordKind Z h1 hv (by omega) (by omega)) (fun v7 h7' => ?_)
      refine piece (by rw [n_BL cL]; decide) ?_ ?_ (by rw [ke]; exact hv)
      · rw [h7']
        unfold k_kind
        rw [if_neg (by omega), if_pos cL]
      · unfold k_v0
        rw [if_neg (by rw [hw]; decide)]
    · rw [if_neg cL, if_pos rfl, C_isDigitAt B, Option.bind_some]
      by_cases cD : n_D T x = true
      · rw [if_pos cD, if_neg (by decide)]
        delta F_X9_split_b54
        rw [t_gO k1, Option.bind_some]
        refine Ok_b (C_endOfRun Z h1 false cD) (fun v2 hv => ?_)
        have ele : n_re T false x = n_de T x := rfl
        rw [ele] at hv
        have ke : k_end T x = n_de T x := by unfold k_end; rw [if_neg cL, if_pos cD]
        delta F_X9_split_b65
        rw [C_isLetterAt B, Option.bind_some, if_neg cL, if_pos rfl, C_isDigitAt B, Option.bind_some, if_pos cD, if_neg (by decide), t_gO k1, Option.bind_some, C_valueOf Z h1 hv (by omega), Option.bind_some]
        refine piece (by rw [n_BD cD]; decide) ?_ ?_ (by rw [ke]; exact hv)
        · unfold k_kind
          rw [if_neg (by omega), if_neg cL, if_pos cD]
          rfl
        · unfold k_v0
          rw [if_pos cD]
      · rw [if_neg cD, if_pos rfl]
        delta F_X9_split_b65
        rw [C_isLetterAt B, Option.bind_some, if_neg cL, if_pos rfl, C_isDigitAt B, Option.bind_some, if_neg cD, if_pos rfl]
        have i1 : (l1 + (1 : Int32)).toInt = ((x + 1 : Nat) : Int) := by rw [n_inc h1 (by omega), i_ofNat (by omega)]
        -- a sign of one byte, or a blank
        have one : k_two T x ≠ true → Ok (F_X9_split_b165 (F_X9_split_L19 n) (some 131) l1 l2 (n_ca T x) (l1 + (1 : Int32)) M) (z_Sp T M) := by
          intro h2'
          have ke : k_end T x = x + 1 := by unfold k_end; rw [if_neg cL, if_neg cD, if_neg h2']
          delta F_X9_split_b165
          refine Ok_i (fun c32 => ?_) (fun c32 => ?_)
          · rw [b178]
            have hB : n_B T x = true := by
              refine decide_eq_true ⟨hlt, Int32.toInt_inj.mp ?_⟩
              have r := n_ca_r B hlt
              have := B.1 x
              have z32 : (32 : Int32).toInt = 32 := rfl
              rw [c32] at r
              rw [z32] at r ⊢
              split at r <;> omega
            exact ih (x + 1) (i + 1) j Z P i1 (by omega) (by rw [show (l2 + 1 : Int32) = Int32.ofNat (i + 1) from n_inc h3 (by omega), i_ofNat (by omega)]) (by omega) (by omega) (by rw [← n_sk_step hB]; exact h6) h7 (by omega)
          · rw [t_gO k1, Option.bind_some]
            refine piece (fun z => c32 ?_) ?_ ?_ (by rw [ke]; exact i1)
            · have e := (of_decide_eq_true z).2
              unfold n_ca
              rw [if_pos hlt, e]
              rfl
            · unfold k_kind
              rw [if_neg (by omega), if_neg cL, if_neg cD, if_neg h2']
            · unfold k_v0
              rw [if_neg cD]
        have two : (n_ca T x = 60 ∨ n_ca T x = 62) → Ok (F_X9_split_b127 (F_X9_split_L19 n) (some 131) l1 l2 (n_ca T x) (l1 + (1 : Int32)) M) (z_Sp T M) := by
          intro h60
          delta F_X9_split_b127
          rw [t_gO k1, Option.bind_some, C_byteAt Z i1, Option.bind_some]
          refine Ok_i (fun c61 => ?_) (fun c61 => one (fun z => c61 (of_decide_eq_true z).2))
          have h2' : k_two T x = true := decide_eq_true ⟨h60, c61⟩
          have ke : k_end T x = x + 2 := by unfold k_end; rw [if_neg cL, if_neg cD, if_pos h2']
          have i2 : (l1 + (1 : Int32) + 1).toInt = ((x + 2 : Nat) : Int) := by rw [show (l1 + (1 : Int32) + 1 : Int32) = Int32.ofNat (x + 1 + 1) from n_inc i1 (by omega), i_ofNat (by omega)]
          have nB : n_B T x ≠ true := by
            intro z
            have e := (of_decide_eq_true z).2
            have : n_ca T x = 32 := by
              unfold n_ca
              rw [if_pos hlt, e]
              rfl
            rcases h60 with e | e <;> (rw [e] at this; exact absurd this (by decide))
          have vk : k_v0 T x = 0 := by unfold k_v0; rw [if_neg cD]
          have kk : k_kind T x = (if n_ca T x = 60 then 258 else 259) := by
            unfold k_kind
            rw [if_neg (by omega), if_neg cL, if_neg cD, if_pos h2']
          refine Ok_i (fun c60 => ?_) (fun c60 => ?_)
          · delta F_X9_split_b154
            rw [t_gO k1, Option.bind_some]
            exact piece nB (by rw [kk, if_pos c60]; rfl) vk.symm (by rw [ke]; exact i2)
          · delta F_X9_split_b154
            rw [t_gO k1, Option.bind_some]
            exact piece nB (by rw [kk, if_neg c60]; rfl) vk.symm (by rw [ke]; exact i2)
        refine Ok_i (fun c60 => two (Or.inl c60)) (fun c60 => Ok_i (fun c62 => two (Or.inr c62)) (fun c62 => one (fun z => ?_)))
        rcases (of_decide_eq_true z).1 with e | e
        · exact c60 e
        · exact c62 e
theorem C_split {T M : gM} (Z : z_T T M) : Ok (F_X9_split (some 131) M) (fun M' => z_Fr M M' ∧ (∃ N, z_E T N ∧ z_P T M' (N + 1)) ∧ (M'.2.1 131 5 = 0 ∧ M'.2.1 131 7 = 0)) := by
  have k1 := Z.1.1.1.1.1.1
  have B := Z.1.2
  delta F_X9_split F_X9_split_b0
  rw [t_pI k1, Option.bind_some]
  obtain ⟨M1, e1⟩ : ∃ M1, M1 = mI M 131 4 (0 : Int32) := ⟨_, rfl⟩
  rw [← e1]
  have k2 : g_k M1 131 = (9, 0) := by rw [e1]; exact k1
  rw [t_pI k2, Option.bind_some]
  obtain ⟨M2, e2⟩ : ∃ M2, M2 = mI M1 131 5 (0 : Int32) := ⟨_, rfl⟩
  rw [← e2]
  have k3 : g_k M2 131 = (9, 0) := by rw [e2]; exact k2
  rw [t_pI k3, Option.bind_some]
  obtain ⟨M3, e3⟩ : ∃ M3, M3 = mI M2 131 7 (0 : Int32) := ⟨_, rfl⟩
  rw [← e3]
  have f : z_Fr M M3 := by
    rw [e3]
    refine z_tr ?_ (z_up (by unfold z_W; omega))
    rw [e2]
    refine z_tr ?_ (z_up (by unfold z_W; omega))
    rw [e1]
    exact z_up (by unfold z_W; omega)
  have a4 : M3.2.1 131 4 = 0 := by rw [e3, mI_ne (Or.inr (by decide)), e2, mI_ne (Or.inr (by decide)), e1]; exact y_mI1
  have a5 : M3.2.1 131 5 = 0 := by rw [e3, mI_ne (Or.inr (by decide)), e2]; exact y_mI1
  have a7 : M3.2.1 131 7 = 0 := by rw [e3]; exact y_mI1
  refine Ok_w (C_split_L19 _ 0 0 0 (z_Tm Z f) ⟨by rw [a4]; rfl, fun i hi => absurd hi (Nat.not_lt_zero _)⟩ rfl (Nat.zero_le _) rfl (Nat.le_refl _) (Nat.le_refl _) rfl (fun i hi => absurd hi (Nat.not_lt_zero _)) (n_fu (by have := B.2; omega))) (fun M' z => ?_)
  exact ⟨z_tr f z.1, z.2.1, z.2.2.1.trans a5, z.2.2.2.trans a7⟩
-- 65.cur
/-! the reader's place among the pieces -/
theorem z_E_le {T : gM} {N : Nat} (h : z_E T N) : N ≤ n_s T := by
  have : ∀ i, i ≤ N → i ≤ k_pl T i := by
    intro i
    induction i with
    | zero => intro _; exact Nat.zero_le _
    | succ i ih =>
      intro hi
      have h1 := ih (by omega)
      have h2 := (k_nx_r (h.2 i (by omega))).1
      show i + 1 ≤ k_nx T (k_pl T i)
      omega
  have h1 := this N (Nat.le_refl _)
  rw [h.1] at h1
  exact h1
def z_C (T M : gM) (p : Nat) : Prop := z_T T M ∧ ∃ N j, z_E T N ∧ z_P T M (N + 1) ∧ j ≤ N ∧ (M.2.1 131 5).toInt = (j : Int) ∧ k_pl T j = p
theorem z_Cs {T M : gM} {p : Nat} (C : z_C T M p) : p ≤ n_s T ∧ n_s T ≤ 400 := by
  obtain ⟨Z, N, j, ⟨e1, e2⟩, _, hj, _, rfl⟩ := C
  refine ⟨?_, Z.1.2.2⟩
  rcases Nat.lt_or_ge j N with h | h
  · have := e2 j h
    omega
  · have : j = N := by omega
    rw [this, e1]
    exact Nat.le_refl _
/-- what leaves the pieces and the place alone -/
theorem z_Cm {T M M' : gM} {p : Nat} (C : z_C T M p) (f : z_Fr M M') (h : (∀ k, k = 4 ∨ k = 5 → M'.2.1 131 k = M.2.1 131 k) ∧ ∀ i, i = 133 ∨ i = 134 ∨ i = 135 → M'.2.1 i = M.2.1 i) : z_C T M' p := by
  obtain ⟨Z, N, j, hE, ⟨p1, p2⟩, hj, h5, hp⟩ := C
  refine ⟨z_Tm Z f, N, j, hE, ⟨by rw [h.1 4 (Or.inl rfl)]; exact p1, fun i hi => ?_⟩, hj, by rw [h.1 5 (Or.inr rfl)]; exact h5, hp⟩
  rw [h.2 133 (Or.inl rfl), h.2 134 (Or.inr (Or.inl rfl)), h.2 135 (Or.inr (Or.inr rfl))]
  exact p2 i hi
theorem z_Cmi {T M : gM} {p i k : Nat} {v : Int32} (C : z_C T M p) (hw : z_W i k) (h : (i = 131 ∧ k = 7) ∨ i = 148 ∨ i = 149 ∨ i = 150) : z_C T (mI M i k v) p := by
  refine z_Cm C (z_up hw) ⟨fun a ha => mI_ne (by omega), fun a ha => funext (fun b => mI_ne (Or.inl (by omega)))⟩
theorem C_kind {T M : gM} {p : Nat} (C : z_C T M p) : Ok (F_X9_kind (some 131) M) (fun v => v.toInt = k_kind T p) := by
  obtain ⟨⟨⟨⟨⟨⟨⟨k1, _⟩, ⟨k3, _⟩, _⟩, _⟩, ⟨⟨_, r1⟩, _⟩, _⟩, B⟩, _⟩, N, j, hE, ⟨p1, p2⟩, hj, h5, hp⟩ := C
  have hN := z_E_le hE
  have hB := B.2
  delta F_X9_kind F_X9_kind_b0
  rw [t_gI k1, Option.bind_some, t_gI k1, Option.bind_some, if_neg (fun z => by have := i_le z; omega), t_gR k1 r1, Option.bind_some, Option.bind_some, t_aI k3 (by omega) (by omega), Option.bind_some, i_cl h5]
  refine Ok_s ?_
  rw [(p2 j (by omega)).1.1, hp]
theorem C_place {T M : gM} {p : Nat} (C : z_C T M p) : Ok (F_X9_place (some 131) M) (fun v => v.toInt = (p : Int)) := by
  obtain ⟨⟨⟨⟨⟨⟨⟨k1, _⟩, ⟨_, k4⟩, _⟩, _⟩, ⟨_, r2, _⟩, _⟩, B⟩, _⟩, N, j, hE, ⟨p1, p2⟩, hj, h5, hp⟩ := C
  have hN := z_E_le hE
  have hB := B.2
  delta F_X9_place F_X9_place_b0
  rw [t_gI k1, Option.bind_some, t_gI k1, Option.bind_some, if_neg (fun z => by have := i_le z; omega), t_gR k1 r2, Option.bind_some, Option.bind_some, t_aI k4 (by omega) (by omega), Option.bind_some, i_cl h5]
  refine Ok_s ?_
  rw [(p2 j (by omega)).1.2, hp]
/-- behind the piece at p -/
def k_go (T : gM) (p : Nat) : Nat := if p < n_s T then k_nx T p else p
/-- only the reader's place changed -/
def z_5 (M M' : gM) : Prop := z_Fr M M' ∧ ∀ i k, ¬ (i = 131 ∧ k = 5) → M'.2.1 i k = M.2.1 i k
theorem C_next {T M : gM} {p : Nat} (C : z_C T M p) : Ok (F_X9_next (some 131) M) (fun M' => z_C T M' (k_go T p) ∧ z_5 M M') := by
  have C0 := C
  obtain ⟨Z, N, j, hE, ⟨p1, p2⟩, hj, h5, hp⟩ := C
  have k1 := Z.1.1.1.1.1.1
  have hN := z_E_le hE
  have hB := Z.1.2.2
  have a1 := i_subc (x := M.2.1 131 4) (c := (1 : Int32)) (n := 1) rfl (by omega) (by omega)
  delta F_X9_next F_X9_next_b0
  rw [t_gI k1, Option.bind_some, t_gI k1, Option.bind_some]
  refine Ok_i (fun c => ?_) (fun c => ?_)
  · have := i_le c
    have ej : j = N := by omega
    have ep : p = n_s T := by rw [← hp, ej, hE.1]
    refine Ok_s ⟨?_, z_rf, fun _ _ _ => rfl⟩
    unfold k_go
    rw [if_neg (by omega)]
    exact C0
  · have hc := i_nle c
    have hlt : k_pl T j < n_s T := hE.2 j (by omega)
    rw [Option.bind_some, t_pI k1, Option.bind_some, n_inc h5 (by omega)]
    have f : z_Fr M (mI M 131 5 (Int32.ofNat (j + 1))) := z_up (by unfold z_W; omega)
    have o : ∀ i k, ¬ (i = 131 ∧ k = 5) → (mI M 131 5 (Int32.ofNat (j + 1))).2.1 i k = M.2.1 i k := fun i k h => mI_ne (by omega)
    refine Ok_s ⟨⟨z_Tm Z f, N, j + 1, hE, ⟨by rw [o _ _ (by omega)]; exact p1, fun i hi => ?_⟩, by omega, ?_, ?_⟩, f, o⟩
    · rw [o 133 _ (by omega), o 134 _ (by omega), o 135 _ (by omega)]
      exact p2 i hi
    · rw [y_mI1, i_ofNat (by omega)]
    · unfold k_go
      rw [← hp, if_pos hlt]
      rfl
def n_bl (M : gM) (l1 l2 : Int32) : gM := if M.2.1 131 7 = 0 then mI M 131 7 (((1 : Int32) + ((8 : Int32) * l1)) + l2) else M
theorem C_blame {M : gM} {l1 l2 : Int32} (k1 : g_k M 131 = (9, 0)) : F_X9_blame (some 131) l1 l2 M = some (n_bl M l1 l2) := by
  delta F_X9_blame F_X9_blame_b0
  unfold n_bl
  rw [t_gI k1, Option.bind_some]
  by_cases c : M.2.1 131 7 = 0
  · rw [if_pos c, if_pos c, t_pI k1, Option.bind_some]
  · rw [if_neg c, if_neg c]
theorem z_k131 {T M : gM} {p : Nat} (C : z_C T M p) : g_k M 131 = (9, 0) := C.1.1.1.1.1.1.1
/-- only the FAULT changed -/
def z_7 (M M' : gM) : Prop := z_Fr M M' ∧ ∀ i k, ¬ (i = 131 ∧ k = 7) → M'.2.1 i k = M.2.1 i k
theorem n_bl_r {T M : gM} {p : Nat} {l1 l2 : Int32} (C : z_C T M p) : z_C T (n_bl M l1 l2) p ∧ z_7 M (n_bl M l1 l2) := by
  unfold n_bl
  by_cases c : M.2.1 131 7 = 0
  · rw [if_pos c]
    exact ⟨z_Cmi C (by unfold z_W; omega) (Or.inl ⟨rfl, rfl⟩), z_up (by unfold z_W; omega), fun i k h => mI_ne (by omega)⟩
  · rw [if_neg c]
    exact ⟨C, z_rf, fun _ _ _ => rfl⟩
theorem n_bl_0 {M : gM} {l1 l2 : Int32} {q d : Nat} (h : M.2.1 131 7 = 0) (h1 : l1.toInt = (q : Int)) (hq : q ≤ 400) (h2 : l2.toInt = (d : Int)) (hd : d ≤ 7) : ((n_bl M l1 l2).2.1 131 7).toInt = ((1 + 8 * q + d : Nat) : Int) := by
  unfold n_bl
  rw [if_pos h, y_mI1]
  have a1 := i_mulL (c := (8 : Int32)) (x := l1) (n := 8) rfl (by omega) (by omega)
  have a2 := i_cadd (c := (1 : Int32)) (x := (8 : Int32) * l1) (n := 1) rfl (by omega) (by omega)
  have a3 := i_add (x := (1 : Int32) + (8 : Int32) * l1) (y := l2) (by omega) (by omega)
  omega
theorem n_bl_s {M : gM} {l1 l2 : Int32} (h : M.2.1 131 7 ≠ 0) : n_bl M l1 l2 = M := by
  unfold n_bl
  rw [if_neg h]
theorem C_faulty {M : gM} (k1 : g_k M 131 = (9, 0)) : F_X9_isFaulty (some 131) M = some (if M.2.1 131 7 = 0 then 0 else 1) := by
  delta F_X9_isFaulty F_X9_isFaulty_b0
  rw [t_gI k1, Option.bind_some]
  by_cases c : M.2.1 131 7 = 0
  · rw [if_pos c, if_pos c]
  · rw [if_neg c, if_neg c]
/-- the class's tape only -/
def z_57 (M M' : gM) : Prop := z_Fr M M' ∧ ∀ i k, ¬ (i = 131 ∧ (k = 5 ∨ k = 7)) → M'.2.1 i k = M.2.1 i k
theorem z_57a {M M' : gM} (h : z_5 M M') : z_57 M M' := ⟨h.1, fun i k hk => h.2 i k (by omega)⟩
theorem z_57b {M M' : gM} (h : z_7 M M') : z_57 M M' := ⟨h.1, fun i k hk => h.2 i k (by omega)⟩
theorem z_57t {M M1 M2 : gM} (h1 : z_57 M M1) (h2 : z_57 M1 M2) : z_57 M M2 := ⟨z_tr h1.1 h2.1, fun i k hk => (h2.2 i k hk).trans (h1.2 i k hk)⟩
theorem z_57r {M : gM} : z_57 M M := ⟨z_rf, fun _ _ _ => rfl⟩
theorem k_v0_D {T : gM} {p : Nat} (h : n_D T p = true) : k_v0 T p = k_val T p := by
  unfold k_v0
  rw [if_pos h]
theorem k_kind_D {T : gM} {p : Nat} : k_kind T p = 257 ↔ n_D T p = true := by
  unfold k_kind
  by_cases c0 : n_s T ≤ p
  · rw [if_pos c0]
    exact ⟨fun h => by omega, fun h => by have := (of_decide_eq_true h).1; omega⟩
  · rw [if_neg c0]
    by_cases c1 : n_L T p = true
    · rw [if_pos c1]
      refine ⟨fun h => by have := k_w_r (T := T) (p := p); omega, fun h => ?_⟩
      rw [n_LD c1] at h
      cases h
    · rw [if_neg c1]
      by_cases c2 : n_D T p = true
      · rw [if_pos c2]
        exact ⟨fun _ => c2, fun _ => rfl⟩
      · rw [if_neg c2]
        refine ⟨fun h => ?_, fun h => absurd h c2⟩
        by_cases c3 : k_two T p = true
        · rw [if_pos c3] at h
          split at h <;> omega
        · rw [if_neg c3] at h
          exfalso
          have : (n_ca T p).toInt ≤ 255 := by
            unfold n_ca
            rw [if_pos (by omega)]
            exact (i_andc (a := n_b T p) (m := (255 : Int32)) (n := 255) rfl (by decide)).2
          omega
theorem z_no_s {T : gM} {p : Nat} (h : n_D T p = true) : k_go T p = n_sk T (n_de T p) := by
  have h1 : p < n_s T := (of_decide_eq_true h).1
  have h2 : n_L T p ≠ true := fun z => by rw [n_LD z] at h; cases h
  unfold k_go k_nx k_end
  rw [if_pos h1, if_neg h2, if_pos h]
theorem C_number {T M : gM} {p : Nat} {lo hi : Int32} (C : z_C T M p) (f0 : M.2.1 131 7 = 0) (hlo : 0 ≤ lo.toInt) (hhi : hi.toInt ≤ 999999) : Ok (F_X9_number (some 131) lo hi M) (fun r =>
    (n_D T p = true ∧ n_ok T p lo.toInt hi.toInt = true → r.1 = n_v T p ∧ z_C T r.2 (k_go T p) ∧ z_5 M r.2) ∧
    (n_D T p = true ∧ ¬ n_ok T p lo.toInt hi.toInt = true → r.1 = -1 ∧ z_C T r.2 p ∧ z_7 M r.2 ∧ (r.2.2.1 131 7).toInt = ((1 + 8 * p + 1 : Nat) : Int)) ∧
    (¬ n_D T p = true → r.1 = -1 ∧ z_C T r.2 p ∧ z_7 M r.2 ∧ (r.2.2.1 131 7).toInt = ((1 + 8 * p + 0 : Nat) : Int))) := by
  have k1 := z_k131 C
  have hs := z_Cs C
  delta F_X9_number F_X9_number_b0
  rw [t_gO k1, Option.bind_some, C_faulty k1, Option.bind_some, if_pos f0, if_pos rfl]
  have bl : ∀ {l : Int32} {d : Nat}, l.toInt = (d : Int) → d ≤ 7 → Ok ((gO 9 M (some 131)).bind fun i1 => (F_X9_place (some i1) M).bind fun v2 => (F_X9_blame (some i1) v2 l M).bind fun M3 => some ((-1 : Int32), M3)) (fun r => r.1 = -1 ∧ z_C T r.2 p ∧ z_7 M r.2 ∧ (r.2.2.1 131 7).toInt = ((1 + 8 * p + d : Nat) : Int)) := by
    intro l d hl hd
    rw [t_gO k1, Option.bind_some]
    refine Ok_b (C_place C) (fun v2 hv => ?_)
    rw [C_blame k1, Option.bind_some]
    obtain ⟨c1, c2⟩ := n_bl_r (l1 := v2) (l2 := l) C
    exact Ok_s ⟨rfl, c1, c2, n_bl_0 f0 hv (by omega) hl hd⟩
  refine Ok_b (C_kind C) (fun v3 h3 => ?_)
  have z257 : (257 : Int32).toInt = 257 := rfl
  refine Ok_i (fun c => ?_) (fun c => ?_)
  · have hD : n_D T p = true := k_kind_D.mp (by rw [← h3, c]; rfl)
    have C0 := C
    obtain ⟨⟨⟨⟨⟨⟨⟨_, _⟩, _, k5⟩, _⟩, ⟨_, _, r3⟩, _⟩, B⟩, _⟩, N, j, hE, ⟨p1, p2⟩, hj, h5, hp⟩ := C
    have hN := z_E_le hE
    have hB := B.2
    have ev : M.2.1 135 j = k_val T p := by rw [(p2 j (by omega)).2, hp, k_v0_D hD]
    rw [t_gI k1, Option.bind_some, t_gI k1, Option.bind_some, if_pos (Int32.lt_iff_toInt_lt.mpr (by omega)), t_gR k1 r3, Option.bind_some, Option.bind_some, t_aI k5 (by omega) (by omega), Option.bind_some, i_cl h5, ev]
    have vr := n_v_r (M := T) (p := p)
    have z6 : (1000000 : Int32).toInt = 1000000 := rfl
    by_cases ok : n_ok T p lo.toInt hi.toInt = true
    · have o := of_decide_eq_true ok
      have ek : k_val T p = n_v T p := by unfold k_val; rw [if_pos o.1]
      rw [ek, if_neg (fun z => by have := i_lt z; omega), if_pos (Int32.le_iff_toInt_le.mpr (by omega))]
      refine Ok_b (C_next C0) (fun M9 z => ?_)
      exact Ok_s ⟨fun _ => ⟨rfl, z⟩, fun h => absurd ok h.2, fun h => absurd hD h⟩
    · have bad := bl (l := (1 : Int32)) (d := 1) rfl (by decide)
      refine Ok_w (P := fun r => r.1 = -1 ∧ z_C T r.2 p ∧ z_7 M r.2 ∧ (r.2.2.1 131 7).toInt = ((1 + 8 * p + 1 : Nat) : Int)) ?_ (fun r z => ⟨fun h => absurd h.2 ok, fun _ => z, fun h => absurd hD h⟩)
      refine Ok_i (fun _ => bad) (fun c1 => Ok_i (fun c2 => ?_) (fun _ => bad))
      exfalso
      have d1 := i_nlt c1
      have d2 := i_le c2
      apply ok
      by_cases c5 : n_de T p ≤ p + 5
      · have ek : k_val T p = n_v T p := by unfold k_val; rw [if_pos c5]
        rw [ek] at d1 d2
        exact decide_eq_true ⟨c5, d1, d2⟩
      · have ek : k_val T p = 1000000 := by unfold k_val; rw [if_neg c5]
        rw [ek] at d2
        omega
  · have hD : ¬ n_D T p = true := fun z => c (Int32.toInt_inj.mp (by rw [h3, z257]; exact k_kind_D.mpr z))
    refine Ok_w (bl (l := (0 : Int32)) (d := 0) rfl (by decide)) (fun r z => ⟨fun h => absurd h.1 hD, fun h => absurd h.1 hD, fun _ => z⟩)
/-- in a FAULT a number is not read -/
theorem C_numberF {M : gM} {lo hi : Int32} (k1 : g_k M 131 = (9, 0)) (f0 : M.2.1 131 7 ≠ 0) : F_X9_number (some 131) lo hi M = some (-1, M) := by
  delta F_X9_number F_X9_number_b0
  rw [t_gO k1, Option.bind_some, C_faulty k1, Option.bind_some, if_neg f0, if_neg (by decide)]
theorem C_expect {T M : gM} {p : Nat} {l : Int32} (C : z_C T M p) : Ok (F_X9_expect (some 131) l M) (fun M' => z_C T M' (k_go T p) ∧ z_57 M M' ∧ (k_kind T p = l.toInt → M'.2.1 131 7 = M.2.1 131 7) ∧ (M.2.1 131 7 ≠ 0 → M'.2.1 131 7 = M.2.1 131 7) ∧ (M.2.1 131 7 = 0 → k_kind T p ≠ l.toInt → (M'.2.1 131 7).toInt = ((1 + 8 * p + 0 : Nat) : Int))) := by
  have k1 := z_k131 C
  have hs := z_Cs C
  delta F_X9_expect F_X9_expect_b0 F_X9_expect_b17
  rw [t_gO k1, Option.bind_some]
  refine Ok_b (C_kind C) (fun v2 h2 => ?_)
  refine Ok_i (fun c => ?_) (fun c => ?_)
  · rw [t_gO k1, Option.bind_some]
    refine Ok_b (C_next C) (fun M2 z => Ok_s ⟨z.1, z_57a z.2, fun _ => z.2.2 131 7 (by omega), fun _ => z.2.2 131 7 (by omega), fun _ h => absurd (by rw [← h2, c]) h⟩)
  · refine Ok_b (C_place C) (fun v3 h3 => ?_)
    rw [C_blame k1, Option.bind_some]
    obtain ⟨c1, c2⟩ := n_bl_r (l1 := v3) (l2 := (0 : Int32)) C
    have e0 := fun h => n_bl_0 (M := M) (l1 := v3) (l2 := (0 : Int32)) (q := p) (d := 0) h h3 (by omega) rfl (by decide)
    have es := fun h => n_bl_s (M := M) (l1 := v3) (l2 := (0 : Int32)) h
    generalize n_bl M v3 0 = M4 at c1 c2 e0 es ⊢
    have k4 := z_k131 c1
    rw [t_gO k4, Option.bind_some]
    refine Ok_b (C_next c1) (fun M2 z => Ok_s ⟨z.1, z_57t (z_57b c2) (z_57a z.2), fun h => absurd (Int32.toInt_inj.mp (h2.trans h)) c, fun h => ?_, fun h _ => ?_⟩)
    · rw [z.2.2 131 7 (by omega), es h]
    · rw [z.2.2 131 7 (by omega)]
      exact e0 h
-- 66.spec
/-! RULES, as the document reads them: a place, how many VALUES, the steps (newest first); or a FAULT -/
abbrev sS : Type := Nat × Nat × List (Nat × Int32)
abbrev s_R : Type := Nat ⊕ sS
def s_b (r : s_R) (f : sS → s_R) : s_R := match r with
  | .inl e => .inl e
  | .inr x => f x
def s_push (x : sS) (a : Nat × Int32) : sS := (x.1, x.2.1, a :: x.2.2)
def s_val (T : gM) (x : sS) : s_R :=
  if n_D T x.1 = true then (if n_ok T x.1 0 99999 = true then (if x.2.1 = 60 then .inl (1 + 8 * x.1 + 3) else .inr (k_go T x.1, x.2.1 + 1, (0, n_v T x.1) :: x.2.2)) else .inl (1 + 8 * x.1 + 1))
  else if 261 ≤ k_kind T x.1 ∧ k_kind T x.1 ≤ 274 then (if x.2.1 = 60 then .inl (1 + 8 * x.1 + 3) else .inr (k_go T x.1, x.2.1 + 1, (1, Int32.ofInt (k_kind T x.1 - 261)) :: x.2.2))
  else .inl (1 + 8 * x.1 + 0)
/-- what joins: PARTS 0, FACTS 1, TERMS 2, VALUES 3 -/
def s_jo (what : Nat) (k : Int) : Nat :=
  if k = 37 then (if what = 3 then 6 else 0) else if k = 42 then (if what = 3 then 4 else 0) else if k = 43 then (if what = 2 then 2 else 0) else if k = 45 then (if what = 2 then 3 else 0) else if k = 47 then (if what = 3 then 5 else 0) else if k = 281 then (if what = 1 then 12 else 0) else if k = 282 then (if what = 0 then 13 else 0) else 0
def s_loop (T : gM) (what : Nat) (item : sS → s_R) : Nat → sS → s_R
  | 0, x => .inr x
  | n + 1, x => if s_jo what (k_kind T x.1) = 0 then .inr x else s_b (item (k_go T x.1, x.2)) (fun y => s_loop T what item n (s_push y (s_jo what (k_kind T x.1), 0)))
def s_join (T : gM) (what : Nat) (item : sS → s_R) (x : sS) : s_R := s_b (item x) (s_loop T what item 402)
def s_term (T : gM) : sS → s_R := s_join T 3 (s_val T)
def s_sum (T : gM) : sS → s_R := s_join T 2 (s_term T)
def s_co (k : Int) : Nat := if k = 60 then 7 else if k = 61 then 9 else if k = 62 then 11 else if k = 258 then 8 else if k = 259 then 10 else 0
def s_cmp2 (T : gM) (y : sS) : s_R := if s_co (k_kind T y.1) = 0 then .inl (1 + 8 * y.1 + 0) else if y.2.1 = 60 then .inl (1 + 8 * y.1 + 3) else s_b (s_sum T (k_go T y.1, y.2.1 + 1, y.2.2)) (fun z => .inr (s_push z (s_co (k_kind T y.1), 0)))
def s_cmp (T : gM) (x : sS) : s_R := s_b (s_sum T x) (s_cmp2 T)
def s_close (T : gM) (y : sS) : s_R := if k_kind T y.1 = 93 then .inr (k_go T y.1, y.2) else .inl (1 + 8 * y.1 + 0)
def s_fact (T : gM) : Nat → Nat → sS → s_R
  | 0, _, _ => .inl 0
  | n + 1, d, x =>
    if k_kind T x.1 = 91 then (if 10 ≤ d then .inl (1 + 8 * x.1 + 2) else s_b (s_join T 0 (s_join T 1 (s_fact T n (d + 1))) (k_go T x.1, x.2)) (s_close T))
    else if k_kind T x.1 = 280 then (if 10 ≤ d then .inl (1 + 8 * x.1 + 2) else s_b (s_fact T n (d + 1) (k_go T x.1, x.2)) (fun y => .inr (s_push y (14, 0))))
    else s_cmp T x
def s_F (T : gM) (d : Nat) : sS → s_R := s_fact T (11 - d) d
def s_J (T : gM) (what d : Nat) : sS → s_R := match what with
  | 0 => s_join T 0 (s_join T 1 (s_F T d))
  | 1 => s_join T 1 (s_F T d)
  | 2 => s_sum T
  | _ => s_term T
theorem s_F_eq {T : gM} {d : Nat} (hd : d ≤ 10) (x : sS) : s_F T d x =
    if k_kind T x.1 = 91 then (if 10 ≤ d then .inl (1 + 8 * x.1 + 2) else s_b (s_J T 0 (d + 1) (k_go T x.1, x.2)) (s_close T))
    else if k_kind T x.1 = 280 then (if 10 ≤ d then .inl (1 + 8 * x.1 + 2) else s_b (s_F T (d + 1) (k_go T x.1, x.2)) (fun y => .inr (s_push y (14, 0))))
    else s_cmp T x := by
  unfold s_F
  rw [show 11 - d = (11 - (d + 1)) + 1 by omega]
  rfl
/-! the class's steps -/
def e_c (a : Nat × Int32) : Int32 := Int32.ofNat a.1 ||| (a.2 <<< ((4 : Int32) &&& 31))
def c_O (f : Nat → Int32) : List (Nat × Int32) → Prop
  | [] => True
  | a :: o => f o.length = e_c a ∧ c_O f o
theorem c_O_c {f g : Nat → Int32} : ∀ {o : List (Nat × Int32)}, (∀ q, q < o.length → g q = f q) → c_O f o → c_O g o := by
  intro o
  induction o with
  | nil => intro _ _; trivial
  | cons a o ih =>
    intro h hc
    exact ⟨(h o.length (by simp)).trans hc.1, ih (fun q hq => h q (by simp; omega)) hc.2⟩
/-- the class, no FAULT yet, where the reading of the rule stands at x; c steps more can come -/
def c_X (T M : gM) (x : sS) (c : Nat) : Prop := (z_C T M x.1 ∧ M.2.1 131 7 = 0) ∧ ((M.2.1 148 5).toInt = (x.2.1 : Int) ∧ x.2.1 ≤ 60) ∧ ((M.2.1 148 3).toInt = (x.2.2.length : Int) ∧ c_O (M.2.1 149) x.2.2) ∧ x.2.2.length + c ≤ x.1
/-- the class in a FAULT -/
def c_Y (T M : gM) (e : Nat) : Prop := (∃ p, z_C T M p) ∧ (M.2.1 131 7).toInt = (e : Int) ∧ e ≠ 0 ∧ (0 ≤ (M.2.1 148 3).toInt ∧ (M.2.1 148 3).toInt ≤ 400)
/-- marks stand -/
def c_Fr (M M' : gM) : Prop := z_Fr M M' ∧ M'.2.1 150 = M.2.1 150 ∧ M'.2.1 148 4 = M.2.1 148 4
theorem c_rf {M : gM} : c_Fr M M := ⟨z_rf, rfl, rfl⟩
theorem c_tr {M M1 M2 : gM} (h1 : c_Fr M M1) (h2 : c_Fr M1 M2) : c_Fr M M2 := ⟨z_tr h1.1 h2.1, h2.2.1.trans h1.2.1, h2.2.2.trans h1.2.2⟩
theorem c_57 {M M' : gM} (h : z_57 M M') : c_Fr M M' := ⟨h.1, funext (fun k => h.2 150 k (by omega)), h.2 148 4 (by omega)⟩
def c_R (T : gM) (r : s_R) (p c : Nat) (M' : gM) : Prop := match r with
  | .inl e => c_Y T M' e
  | .inr y => c_X T M' y c ∧ p ≤ y.1
def c_P (T M : gM) (r : s_R) (p c : Nat) : gM → Prop := fun M' => c_Fr M M' ∧ c_R T r p c M'
theorem c_Yn {T M : gM} {e : Nat} (Y : c_Y T M e) : M.2.1 131 7 ≠ 0 := by
  intro h
  have := Y.2.1
  rw [h] at this
  have z0 : (0 : Int32).toInt = 0 := rfl
  have := Y.2.2.1
  omega
theorem c_X57 {T M M' : gM} {x : sS} {c c2 p : Nat} (X : c_X T M x c) (h : z_57 M M') (C : z_C T M' p) (f : M'.2.1 131 7 = 0) (hc : x.2.2.length + c2 ≤ p) : c_X T M' (p, x.2) c2 := by
  refine ⟨⟨C, f⟩, ⟨by rw [h.2 148 5 (by omega)]; exact X.2.1.1, X.2.1.2⟩, ⟨by rw [h.2 148 3 (by omega)]; exact X.2.2.1.1, ?_⟩, hc⟩
  have e : M'.2.1 149 = M.2.1 149 := funext (fun k => h.2 149 k (by omega))
  rw [e]
  exact X.2.2.1.2
theorem c_Y57 {T M M' : gM} {x : sS} {c p e : Nat} (X : c_X T M x c) (h : z_57 M M') (C : z_C T M' p) (f : (M'.2.1 131 7).toInt = (e : Int)) (he : e ≠ 0) : c_Y T M' e := by
  refine ⟨⟨p, C⟩, f, he, ?_⟩
  rw [h.2 148 3 (by omega)]
  have := X.2.2.1.1
  have := z_Cs X.1.1
  have := X.2.2.2
  omega
theorem c_YY {T M M' : gM} {e p : Nat} (Y : c_Y T M e) (h : z_57 M M') (C : z_C T M' p) (f : M'.2.1 131 7 = M.2.1 131 7) : c_Y T M' e := ⟨⟨p, C⟩, by rw [f]; exact Y.2.1, Y.2.2.1, by rw [h.2 148 3 (by omega)]; exact Y.2.2.2⟩
theorem z_148 {M : gM} (h : z_L M) : ((g_k M 148 = (7, 0) ∧ g_k M 149 = (20, 400)) ∧ g_k M 150 = (20, 36)) ∧ ((M.2.2.2 148 0 = some 131 ∧ M.2.2.2 148 1 = some 149) ∧ M.2.2.2 148 2 = some 150) := ⟨h.1.2, h.2.2⟩
theorem z_CL {T M : gM} {p : Nat} (C : z_C T M p) : z_L M := C.1.1.1
/-! one step is put -/
theorem C_put {T M : gM} {x : sS} {c : Nat} {s : Int32} {a : Nat × Int32} (X : c_X T M x (c + 1)) (hs : s = e_c a) : Ok (F_X7_put (some 148) s M) (fun M' => c_Fr M M' ∧ c_X T M' (s_push x a) c) := by
  obtain ⟨⟨C, f0⟩, ⟨v1, v2⟩, ⟨l1, l2⟩, hc⟩ := X
  obtain ⟨⟨⟨k1, k2⟩, _⟩, ⟨⟨r0, r1⟩, _⟩⟩ := z_148 (z_CL C)
  have hs2 := z_Cs C
  have i400 : (Int32.ofNat 400).toInt = 400 := rfl
  have cl : (M.2.1 148 3).toNatClampNeg = x.2.2.length := i_cl l1
  delta F_X7_put F_X7_put_b0
  rw [t_gI k1, Option.bind_some, t_gR k1 r1, Option.bind_some, t_aN k2 (by decide), Option.bind_some, if_neg (fun z => by have := i_le z; omega), Option.bind_some, Option.bind_some, t_sI k2 (by omega) (by omega), Option.bind_some, cl]
  have k1' : g_k (mI M 149 x.2.2.length s) 148 = (7, 0) := k1
  have e3 : (mI M 149 x.2.2.length s).2.1 148 3 = M.2.1 148 3 := mI_ne (Or.inl (by decide))
  rw [t_gI k1', Option.bind_some, t_pI k1', Option.bind_some, e3, n_inc l1 (by omega)]
  have C1 : z_C T (mI (mI M 149 x.2.2.length s) 148 3 (Int32.ofNat (x.2.2.length + 1))) x.1 := z_Cmi (z_Cmi C (by unfold z_W; omega) (Or.inr (Or.inr (Or.inl rfl)))) (by unfold z_W; omega) (Or.inr (Or.inl rfl))
  have o : ∀ i k, i ≠ 149 → ¬ (i = 148 ∧ k = 3) → (mI (mI M 149 x.2.2.length s) 148 3 (Int32.ofNat (x.2.2.length + 1))).2.1 i k = M.2.1 i k := fun i k h1 h2 => by rw [mI_ne (by omega), mI_ne (Or.inl h1)]
  refine Ok_s ⟨⟨z_tr (z_up (by unfold z_W; omega)) (z_up (by unfold z_W; omega)), funext (fun k => o 150 k (by omega) (by omega)), o 148 4 (by omega) (by omega)⟩, ⟨C1, by rw [o 131 7 (by omega) (by omega)]; exact f0⟩, ⟨by rw [o 148 5 (by omega) (by omega)]; exact v1, v2⟩, ⟨by rw [y_mI1, i_ofNat (by omega)]; rfl, ?_⟩, ?_⟩
  · refine ⟨?_, c_O_c (fun q hq => ?_) l2⟩
    · rw [mI_ne (Or.inl (by decide)), y_mI1]
      exact hs
    · rw [mI_ne (Or.inl (by decide)), mI_ne (Or.inr (by omega))]
  · show (a :: x.2.2).length + c ≤ x.1
    simp
    omega
theorem C_putY {T M : gM} {e : Nat} {s : Int32} (Y : c_Y T M e) : Ok (F_X7_put (some 148) s M) (fun M' => c_Fr M M' ∧ c_Y T M' e) := by
  obtain ⟨⟨p, C⟩, f0, he, l1, l2⟩ := Y
  obtain ⟨⟨⟨k1, k2⟩, _⟩, ⟨⟨r0, r1⟩, _⟩⟩ := z_148 (z_CL C)
  have i400 : (Int32.ofNat 400).toInt = 400 := rfl
  delta F_X7_put F_X7_put_b0
  rw [t_gI k1, Option.bind_some, t_gR k1 r1, Option.bind_some, t_aN k2 (by decide), Option.bind_some]
  refine Ok_i (fun c => Ok_s ⟨c_rf, ⟨p, C⟩, f0, he, l1, l2⟩) (fun c => ?_)
  have hc := i_nle c
  obtain ⟨n, hn⟩ : ∃ n : Nat, (M.2.1 148 3).toInt = (n : Int) := ⟨(M.2.1 148 3).toInt.toNat, by omega⟩
  rw [Option.bind_some, Option.bind_some, t_sI k2 (by omega) (by omega), Option.bind_some, i_cl hn]
  have k1' : g_k (mI M 149 n s) 148 = (7, 0) := k1
  have e3 : (mI M 149 n s).2.1 148 3 = M.2.1 148 3 := mI_ne (Or.inl (by decide))
  rw [t_gI k1', Option.bind_some, t_pI k1', Option.bind_some, e3, n_inc hn (by omega)]
  have C1 : z_C T (mI (mI M 149 n s) 148 3 (Int32.ofNat (n + 1))) p := z_Cmi (z_Cmi C (by unfold z_W; omega) (Or.inr (Or.inr (Or.inl rfl)))) (by unfold z_W; omega) (Or.inr (Or.inl rfl))
  have o : ∀ i k, i ≠ 149 → ¬ (i = 148 ∧ k = 3) → (mI (mI M 149 n s) 148 3 (Int32.ofNat (n + 1))).2.1 i k = M.2.1 i k := fun i k h1 h2 => by rw [mI_ne (by omega), mI_ne (Or.inl h1)]
  refine Ok_s ⟨⟨z_tr (z_up (by unfold z_W; omega)) (z_up (by unfold z_W; omega)), funext (fun k => o 150 k (by omega) (by omega)), o 148 4 (by omega) (by omega)⟩, ⟨p, C1⟩, by rw [o 131 7 (by omega) (by omega)]; exact f0, he, by rw [y_mI1, i_ofNat (by omega)]; omega, by rw [y_mI1, i_ofNat (by omega)]; omega⟩
/-- one VALUE more: too many, a FAULT at its place -/
theorem C_count {T M : gM} {x : sS} {c q : Nat} {l : Int32} (X : c_X T M x c) (hl : l.toInt = (q : Int)) (hq : q ≤ 400) : Ok (F_X7_countValue (some 148) l M) (fun M' => c_Fr M M' ∧ (x.2.1 = 60 → c_Y T M' (1 + 8 * q + 3)) ∧ (x.2.1 ≠ 60 → c_X T M' (x.1, x.2.1 + 1, x.2.2) c)) := by
  obtain ⟨⟨C, f0⟩, ⟨v1, v2⟩, ⟨l1, l2⟩, hc⟩ := X
  obtain ⟨⟨⟨k1, k2⟩, _⟩, ⟨⟨r0, r1⟩, _⟩⟩ := z_148 (z_CL C)
  have hs2 := z_Cs C
  have z60 : (60 : Int32).toInt = 60 := rfl
  delta F_X7_countValue F_X7_countValue_b0
  rw [t_gI k1, Option.bind_some, t_pI k1, Option.bind_some, n_inc v1 (by omega)]
  have C1 : z_C T (mI M 148 5 (Int32.ofNat (x.2.1 + 1))) x.1 := z_Cmi C (by unfold z_W; omega) (Or.inr (Or.inl rfl))
  have f1 : z_Fr M (mI M 148 5 (Int32.ofNat (x.2.1 + 1))) := z_up (by unfold z_W; omega)
  have o : ∀ i k, ¬ (i = 148 ∧ k = 5) → (mI M 148 5 (Int32.ofNat (x.2.1 + 1))).2.1 i k = M.2.1 i k := fun i k h => mI_ne (by omega)
  have v5 : ((mI M 148 5 (Int32.ofNat (x.2.1 + 1))).2.1 148 5).toInt = ((x.2.1 + 1 : Nat) : Int) := by rw [y_mI1, i_ofNat (by omega)]
  generalize mI M 148 5 (Int32.ofNat (x.2.1 + 1)) = M2 at C1 f1 o v5 ⊢
  obtain ⟨⟨⟨k1, k2⟩, _⟩, ⟨⟨r0, r1⟩, _⟩⟩ := z_148 (z_CL C1)
  have fr : c_Fr M M2 := ⟨f1, funext (fun k => o 150 k (by omega)), o 148 4 (by omega)⟩
  have f2 : M2.2.1 131 7 = 0 := by rw [o 131 7 (by omega)]; exact f0
  have e149 : M2.2.1 149 = M.2.1 149 := funext (fun k => o 149 k (by omega))
  rw [t_gI k1, Option.bind_some]
  refine Ok_i (fun c3 => ?_) (fun c3 => ?_)
  · have := i_le c3
    refine Ok_s ⟨fr, fun h => by omega, fun _ => ⟨⟨C1, f2⟩, ⟨v5, by show x.2.1 + 1 ≤ 60; omega⟩, ⟨by rw [o 148 3 (by omega)]; exact l1, by rw [e149]; exact l2⟩, hc⟩⟩
  · have := i_nle c3
    have k9 := z_k131 C1
    rw [t_gR k1 r0, Option.bind_some, t_gO k9, Option.bind_some, C_blame k9, Option.bind_some]
    obtain ⟨c1, c2⟩ := n_bl_r (l1 := l) (l2 := (3 : Int32)) C1
    have e0 := n_bl_0 (M := M2) (l1 := l) (l2 := (3 : Int32)) (q := q) (d := 3) f2 hl hq rfl (by decide)
    refine Ok_s ⟨c_tr fr (c_57 (z_57b c2)), fun _ => ⟨⟨_, c1⟩, e0, by omega, ?_⟩, fun h => by omega⟩
    rw [c2.2 148 3 (by omega), o 148 3 (by omega)]
    omega
theorem C_countY {T M : gM} {e : Nat} {l : Int32} (Y : c_Y T M e) : Ok (F_X7_countValue (some 148) l M) (fun M' => c_Fr M M' ∧ c_Y T M' e) := by
  have fn := c_Yn Y
  obtain ⟨⟨p, C⟩, f0, he, l1, l2⟩ := Y
  obtain ⟨⟨⟨k1, k2⟩, _⟩, ⟨⟨r0, r1⟩, _⟩⟩ := z_148 (z_CL C)
  delta F_X7_countValue F_X7_countValue_b0
  rw [t_gI k1, Option.bind_some, t_pI k1, Option.bind_some]
  generalize (M.2.1 148 5 + (1 : Int32)) = w
  have C1 : z_C T (mI M 148 5 w) p := z_Cmi C (by unfold z_W; omega) (Or.inr (Or.inl rfl))
  have f1 : z_Fr M (mI M 148 5 w) := z_up (by unfold z_W; omega)
  have o : ∀ i k, ¬ (i = 148 ∧ k = 5) → (mI M 148 5 w).2.1 i k = M.2.1 i k := fun i k h => mI_ne (by omega)
  generalize mI M 148 5 w = M2 at C1 f1 o ⊢
  obtain ⟨⟨⟨k1, k2⟩, _⟩, ⟨⟨r0, r1⟩, _⟩⟩ := z_148 (z_CL C1)
  have fr : c_Fr M M2 := ⟨f1, funext (fun k => o 150 k (by omega)), o 148 4 (by omega)⟩
  have Y2 : c_Y T M2 e := ⟨⟨p, C1⟩, by rw [o 131 7 (by omega)]; exact f0, he, by rw [o 148 3 (by omega)]; exact ⟨l1, l2⟩⟩
  rw [t_gI k1, Option.bind_some]
  refine Ok_i (fun c3 => Ok_s ⟨fr, Y2⟩) (fun c3 => ?_)
  have k9 := z_k131 C1
  rw [t_gR k1 r0, Option.bind_some, t_gO k9, Option.bind_some, C_blame k9, Option.bind_some, n_bl_s (c_Yn Y2)]
  exact Ok_s ⟨fr, Y2⟩
