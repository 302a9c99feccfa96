/-! what stands for ever in the class: kinds of its first cells, places that are fixed -/
def k_G (M : gM) : Prop := (∀ i, i ≠ 0 → i < 197 → g_k M i = f_K i) ∧ ∀ i, i ≠ 0 → i < 197 → (f_K i).1 ≠ 3 → ∀ k, q_pR (f_K i) k = true → M.2.2.2 i k = RC_510 i k
theorem k_G_first (L : Nat) (xs : Nat → Int32) : k_G (g_Mc L xs) := ⟨fun i h0 _ => f_Kof h0, fun i _ _ _ k _ => congrFun (congrFun (RR_510 L xs) i) k⟩
theorem k_Gc {b : Nat → Bool} {a : Nat} {M M' : gM} (G : k_G M) (hl : 197 ≤ M.1.length) (f : q_Fx b a M M') (ha : (f_K a).1 = 3) : k_G M' :=
  ⟨fun i h0 h => (f.1.2 i (by omega)).trans (G.1 i h0 h), fun i h0 h h3 k hk => (f.2.2.2 i (by omega) (fun e => h3 (by rw [e]; exact ha)) k (by rw [G.1 i h0 h]; exact hk)).trans (G.2 i h0 h h3 k hk)⟩
theorem k_Gr {S : Nat} {M M' : gM} (G : k_G M) (f : y_Fr S M M') : k_G M' := ⟨fun i h0 h => (q_k_of f.1.1).trans (G.1 i h0 h), fun i h0 h h3 k hk => by rw [f.1.2]; exact G.2 i h0 h h3 k hk⟩
set_option maxRecDepth 100000 in
theorem f_K151 : (List.range 4).all (fun k => (f_K (151 + 6 * k)).1 == 3) = true := by decide +kernel
theorem f_Kim {k : Nat} (hk : k < 4) : (f_K (151 + 6 * k)).1 = 3 := by
  have := List.all_eq_true.mp f_K151 k (List.mem_range.mpr hk)
  simpa using this
def k_LSb (s : Nat) : Bool := ((f_K s == (8, 0) && f_K (s + 1) == (20, 49)) && (f_K (s + 2) == (20, 49) && f_K (s + 3) == (20, 7)) && f_K (s + 4) == (20, 7)) && ((RC_510 s 0 == some (s + 1) && RC_510 s 1 == some (s + 2)) && RC_510 s 2 == some (s + 3) && RC_510 s 3 == some (s + 4))
def k_sts : List Nat := 9 :: 14 :: 143 :: ((List.range 20).map (fun k => 21 + 5 * k) ++ (List.range 4).map (fun k => 152 + 6 * k))
set_option maxRecDepth 100000 in
theorem k_LSb_all : k_sts.all (fun s => s != 0 && decide (s + 4 < 197) && k_LSb s) = true := by decide +kernel
theorem k_LS_of {M : gM} (G : k_G M) {s : Nat} (hs : s ∈ k_sts) : k_LS M s := by
  have h := List.all_eq_true.mp k_LSb_all s hs
  simp only [Bool.and_eq_true, bne_iff_ne, decide_eq_true_eq] at h
  obtain ⟨⟨h0, h1⟩, h2⟩ := h
  unfold k_LSb at h2
  simp only [Bool.and_eq_true, beq_iff_eq] at h2
  obtain ⟨⟨⟨⟨a0, a1⟩, a2, a3⟩, a4⟩, ⟨⟨b0, b1⟩, b2⟩, b3⟩ := h2
  have n3 : (f_K s).1 ≠ 3 := by rw [a0]; decide
  have g := fun k (hk : q_pR (8, 0) k = true) => G.2 s h0 (by omega) n3 k (by rw [a0]; exact hk)
  exact ⟨⟨(G.1 s h0 (by omega)).trans a0, ⟨(G.1 _ (by omega) (by omega)).trans a1, (G.1 _ (by omega) (by omega)).trans a2⟩, (G.1 _ (by omega) (by omega)).trans a3, (G.1 _ (by omega) (by omega)).trans a4⟩, ⟨(g 0 rfl).trans b0, (g 1 rfl).trans b1⟩, (g 2 rfl).trans b2, (g 3 rfl).trans b3⟩
def k_ks : List (Nat × (Nat × Nat)) := [(2, (11, 0)), (3, (25, 6)), (4, (10, 0)), (5, (20, 49)), (6, (5, 0)), (7, (21, 32)), (8, (21, 14)), (19, (4, 0)), (20, (24, 20)), (121, (26, 4)), (122, (20, 21)), (123, (0, 0)), (124, (21, 49)), (131, (9, 0)), (136, (2, 0)), (148, (7, 0))]
def k_rs : List (Nat × Nat × Nat) := [(2, 0, 131), (2, 1, 136), (2, 2, 148), (2, 3, 3), (2, 4, 4), (2, 5, 9), (2, 6, 14), (2, 7, 19), (2, 8, 121), (2, 9, 122), (2, 10, 123), (4, 0, 5), (4, 1, 6), (6, 0, 7), (6, 1, 8), (19, 0, 20), (123, 0, 124), (136, 0, 131), (136, 2, 143)]
set_option maxRecDepth 100000 in
theorem k_ks_all : k_ks.all (fun p => p.1 != 0 && decide (p.1 < 197) && f_K p.1 == p.2) = true := by decide +kernel
set_option maxRecDepth 100000 in
theorem k_rs_all : k_rs.all (fun p => (p.1 != 0 && decide (p.1 < 197)) && ((f_K p.1).1 != 3 && q_pR (f_K p.1) p.2.1) && RC_510 p.1 p.2.1 == some p.2.2) = true := by decide +kernel
theorem k_kd {M : gM} (G : k_G M) {i : Nat} {q : Nat × Nat} (h : (i, q) ∈ k_ks) : g_k M i = q := by
  have h := List.all_eq_true.mp k_ks_all _ h
  simp only [Bool.and_eq_true, bne_iff_ne, decide_eq_true_eq, beq_iff_eq] at h
  exact (G.1 i h.1.1 h.1.2).trans h.2
theorem k_rf {M : gM} (G : k_G M) {i k t : Nat} (h : (i, k, t) ∈ k_rs) : M.2.2.2 i k = some t := by
  have h := List.all_eq_true.mp k_rs_all _ h
  simp only [Bool.and_eq_true, bne_iff_ne, decide_eq_true_eq, beq_iff_eq] at h
  exact (G.2 i h.1.1.1 h.1.1.2 h.1.2.1 k h.1.2.2).trans h.2
/-! the relation with all this; house answers the same -/
def lw8 (L : Nat) (M : gM) : Prop := lw6 L M ∧ k_G M
theorem lw8_len {L : Nat} {M : gM} (R : lw_B L M) : 197 ≤ M.1.length := R.1.1.1.1.1
theorem lw8_c {b : Nat → Bool} {L : Nat} {M M' : gM} (R : lw_B L M) (G : k_G M) (f : q_Fr b M M') : k_G M' := k_Gc G (lw8_len R) (q_Fx_of (a := 151 + 6 * 0) f) (f_Kim (by decide))
def lw_31 (L : Nat) (M : gM) (o1 : Option (Int32 × gM)) (o2 : gM → Option (Int32 × gM)) : Prop := ∃ w1 w2 M1 M2, (o1 = some (w1, M1) ∧ lw_B L M1 ∧ M1.2.1 0 = M.2.1 0) ∧ o2 M1 = some (w2, M2) ∧ lw8 L M2 ∧ M2.2.1 0 = M.2.1 0
def lw_32 (L : Nat) (M : gM) (o1 : Option (Int32 × gM)) (o2 : gM → Option (Int32 × gM)) : Prop := ∃ w M1 M2, (o1 = some (w, M1) ∧ lw_B L M1 ∧ M1.2.1 0 = M.2.1 0) ∧ o2 M1 = some (w, M2) ∧ lw8 L M2 ∧ M2.2.1 0 = M.2.1 0
theorem lw8_feed {L : Nat} {v1 v2 v3 v4 v5 : Int32} {M : gM} (R : lw8 L M) : lw_32 L M (F_X11_feed (some 2) v1 v2 v3 v4 v5 M) (F_X12_feed (some 175) v1 v2 v3 v4 v5) := by
  obtain ⟨w, M1, M2, ⟨e1, B1, s1⟩, e2, R2, s2⟩ := lw6_feed (v1 := v1) (v2 := v2) (v3 := v3) (v4 := v4) (v5 := v5) R.1
  obtain ⟨r1, er1, z1⟩ := S_X11_feed (l1 := v1) (l2 := v2) (l3 := v3) (l4 := v4) (l5 := v5) R.1.1.1.1.1.1 R.1.1.1.2.1.1.1
  have x1 := o_eq er1 e1
  subst x1
  obtain ⟨r2, er2, z2⟩ := S_X12_feed (l1 := v1) (l2 := v2) (l3 := v3) (l4 := v4) (l5 := v5) B1.1.1.2
  have x2 := o_eq er2 e2
  subst x2
  exact ⟨w, M1, M2, ⟨e1, B1, s1⟩, e2, ⟨R2, k_Gr (lw8_c R.1.1.1 R.2 z1.2.2) z2.2.2⟩, s2⟩
theorem lw8_end {L : Nat} {l : Int32} {M : gM} (R : lw8 L M) : lw_32 L M (F_X11_end (some 2) l M) (F_X12_end (some 175) l) := by
  obtain ⟨w, M1, M2, ⟨e1, B1, s1⟩, e2, R2, s2⟩ := lw6_end (l := l) R.1
  obtain ⟨r1, er1, z1⟩ := S_X11_end (l1 := l) R.1.1.1.1.1.1 R.1.1.1.2.1.1.1
  have x1 := o_eq er1 e1
  subst x1
  obtain ⟨r2, er2, z2⟩ := S_X12_end (l1 := l) B1.1.1.2
  have x2 := o_eq er2 e2
  subst x2
  exact ⟨w, M1, M2, ⟨e1, B1, s1⟩, e2, ⟨R2, k_Gr (lw8_c R.1.1.1 R.2 z1.2.2) z2.2.2⟩, s2⟩
theorem lw8_rule {L : Nat} {M : gM} (R : lw8 L M) : lw_32 L M (F_X11_rule (some 2) M) (F_X12_rule (some 175)) := by
  obtain ⟨w, M1, M2, ⟨e1, B1, s1⟩, e2, R2, s2⟩ := lw6_rule R.1
  obtain ⟨r1, er1, z1⟩ := S_X11_rule R.1.1.1.1.1.1 R.1.1.1.2.1.1.1
  have x1 := o_eq er1 e1
  subst x1
  obtain ⟨r2, er2, z2⟩ := S_X12_rule B1.1.1.2 B1.1.2
  have x2 := o_eq er2 e2
  subst x2
  exact ⟨w, M1, M2, ⟨e1, B1, s1⟩, e2, ⟨R2, k_Gr (lw8_c R.1.1.1 R.2 z1.2.2) z2.1.2⟩, s2⟩
theorem lw8_force {L : Nat} {l : Int32} {M : gM} (R : lw8 L M) : lw_32 L M (F_X11_force (some 2) l M) (F_X12_force (some 175) l) := by
  obtain ⟨w, M1, M2, ⟨e1, B1, s1⟩, e2, R2, s2⟩ := lw6_force (l := l) R.1
  obtain ⟨r1, er1, z1⟩ := S_X11_force (l1 := l) R.1.1.1.1.1.1 R.1.1.1.2.1.1.1
  have x1 := o_eq er1 e1
  subst x1
  obtain ⟨r2, er2, z2, _⟩ := S_X12_force (l1 := l) B1.1.1.2 B1.1.2
  have x2 := o_eq er2 e2
  subst x2
  exact ⟨w, M1, M2, ⟨e1, B1, s1⟩, e2, ⟨R2, k_Gr (lw8_c R.1.1.1 R.2 z1.2.2) z2.2.2⟩, s2⟩
theorem lw8_seed {L : Nat} {l : Int32} {M : gM} (R : lw8 L M) : lw_32 L M (F_X11_seed (some 2) l M) (F_X12_seed (some 175) l) := by
  obtain ⟨w, M1, M2, ⟨e1, B1, s1⟩, e2, R2, s2⟩ := lw6_seed (l := l) R.1
  have G1 : k_G M1 := by
    have E1 := S_X11_seed (l1 := l) R.1.1.1.2.1.1.1
    have x1 := o_eq E1 e1
    by_cases h : 0 ≤ l
    · rw [if_pos h] at x1
      cases x1
      exact R.2
    · rw [if_neg h] at x1
      cases x1
      exact R.2
  obtain ⟨r2, er2, z2⟩ := S_X12_seed (l1 := l) B1.1.1.2
  have x2 := o_eq er2 e2
  subst x2
  exact ⟨w, M1, M2, ⟨e1, B1, s1⟩, e2, ⟨R2, k_Gr G1 z2.1.2⟩, s2⟩
theorem lw8_image {L : Nat} {l : Int32} {M : gM} (R : lw8 L M) : lw_31 L M (F_X11_image (some 2) l M) (F_X12_image (some 175) l) := by
  obtain ⟨w1, w2, M1, M2, ⟨e1, B1, s1⟩, e2, R2, s2⟩ := lw6_image (l := l) R.1
  obtain ⟨r1, er1, z1, z2⟩ := S_X11_image (l1 := l) R.1.1.1.1.1.1 R.1.1.1.2.1.1.1 R.1.1.1.2.1.1.2
  have x1 := o_eq er1 e1
  subst x1
  have G1 : k_G M1 := by
    by_cases c : 0 ≤ l.toInt ∧ l.toInt ≤ 3
    · obtain ⟨n, hn⟩ : ∃ n : Nat, l.toInt = (n : Int) := ⟨l.toInt.toNat, by omega⟩
      have hc : l.toNatClampNeg = n := i_cl hn
      have f := (z2 c).2.1
      rw [hc] at f
      exact k_Gc R.2 (lw8_len R.1.1.1) f (f_Kim (by omega))
    · have h := z1 c
      dsimp only at h
      rw [h]
      exact R.2
  obtain ⟨r2, er2, y2, _⟩ := S_X12_image (l1 := l) B1.1.1.2 B1.1.2
  have x2 := o_eq er2 e2
  subst x2
  exact ⟨w1, w2, M1, M2, ⟨e1, B1, s1⟩, e2, ⟨R2, k_Gr G1 y2.2⟩, s2⟩
theorem lw8_back {L : Nat} {l : Int32} {M : gM} (R : lw8 L M) : lw_31 L M (F_X11_back (some 2) l M) (F_X12_back (some 175) l) := by
  obtain ⟨w1, w2, M1, M2, ⟨e1, B1, s1⟩, e2, R2, s2⟩ := lw6_back (l := l) R.1
  obtain ⟨r1, er1, z1, z2⟩ := S_X11_back (l1 := l) R.1.1.1.1.1.1 R.1.1.1.2.1.1.1 R.1.1.1.2.1.1.2
  have x1 := o_eq er1 e1
  subst x1
  have G1 : k_G M1 := by
    by_cases c : (0 ≤ l.toInt ∧ l.toInt ≤ 3) ∧ M.2.2.2 (151 + 6 * l.toNatClampNeg) 1 ≠ none
    · exact lw8_c R.1.1.1 R.2 (z2 c).2.1
    · have h := z1 c
      dsimp only at h
      rw [h]
      exact R.2
  obtain ⟨r2, er2, y2, _⟩ := S_X12_back (l1 := l) B1.1.1.2 B1.1.2
  have x2 := o_eq er2 e2
  subst x2
  exact ⟨w1, w2, M1, M2, ⟨e1, B1, s1⟩, e2, ⟨R2, k_Gr G1 y2.2⟩, s2⟩
theorem lw8_house {L : Nat} {M : gM} (R : lw8 L M) : lw_32 L M (F_X11_house (some 2) M) (F_X12_house (some 175)) := by
  obtain ⟨w1, w2, M1, M2, ⟨e1, B1, s1⟩, e2, R2, s2⟩ := lw6_house R.1
  obtain ⟨r1, er1, z1⟩ := S_X11_house R.1.1.1.1.1.1 R.1.1.1.2.1.1.1
  have x1 := o_eq er1 e1
  subst x1
  obtain ⟨r2, er2, z2⟩ := S_X12_house B1.1.1.2
  have x2 := o_eq er2 e2
  subst x2
  have G := R.2
  have G2 : k_G M2 := k_Gr (lw8_c R.1.1.1 R.2 z1.2.2) z2.2
  obtain ⟨⟨n1, n2⟩, n4⟩ := lw_n R.1.1
  have B : z_B M := ⟨R.1.1.2.2.2, n4⟩
  have rc := lw_rc (q_Fx_of (a := 151) z1.2.2)
  dsimp only at rc
  obtain ⟨r3, er3, _, c3⟩ := C_houseX (T := M) (e := M.1.length) (σ := hs_0 (M.2.1 181)) ⟨⟨R.1.1.1.2.2.1, B⟩, R.1.1.2.1.1, n2⟩ rfl (lw8_len R.1.1.1) (k_kd G (by decide)) ⟨⟨k_rf G (by decide), k_rf G (by decide)⟩, k_rf G (by decide), k_rf G (by decide)⟩ (k_kd G (by decide)) (k_kd G (by decide)) (k_rf G (by decide)) (k_rf G (by decide)) (k_LS_of G (by decide)) (k_LS_of G (by decide)) (fun k hk => if_pos hk)
  have x3 := o_eq er3 e1
  subst x3
  obtain ⟨r4, er4, _, c4⟩ := E_houseX (T := M) (M := M1) B B1.1.1.2 (rc 176 (by decide)) (by unfold n_s; rw [rc 175 (by decide)])
  have x4 := o_eq er4 e2
  subst x4
  rw [rc 181 (by decide)] at c4
  dsimp only at c3 c4
  have ew : w2 = w1 := by
    generalize hs_text M (hs_0 (M.2.1 181)) = t at c3 c4
    cases t with
    | inl er =>
      obtain ⟨⟨u, a1, a2⟩, _⟩ := c3
      obtain ⟨⟨u2, b1, b2⟩, _⟩ := c4
      have : u2 = u := Int32.toInt_inj.mp (by omega)
      rw [a1, b1, this]
    | inr y =>
      rw [c3.1.1, c4.1.1]
  subst ew
  exact ⟨w2, M1, M2, ⟨e1, B1, s1⟩, e2, ⟨R2, G2⟩, s2⟩
theorem lw8_cPI {b : Nat → Bool} {L : Nat} {lo hi : Int} {M : gM} {o : Option (Int32 × gM)} {β : Type} {f : Int32 × gM → Option β} {Q : β → Prop} (R : lw8 L M) (h1 : b 12 = true) (h2 : b 100 = true) (h3 : b 101 = true) (h13 : b 13 = true) (h14 : b 14 = true) (h : Ok o (q_PI b M lo hi)) (k : ∀ v M', lw8 L M' → M'.2.1 0 = M.2.1 0 → Ok (f (v, M')) Q) : Ok (o.bind f) Q := by
  refine Ok_b h (fun r z => ?_)
  obtain ⟨v, M'⟩ := r
  have fx := q_Fx_of (a := 151) z.2.2
  exact k v M' ⟨⟨lw_cls R.1.1 z.2.1 z.2.2 h1 h2 h3, g6_of R.1.2 (g6_cC R.1.1.1 z.2.2 (g6_b R.1.1.1 z.2.2 h13) (g6_b R.1.1.1 z.2.2 h14)) (g6_cE fx)⟩, lw8_c R.1.1.1 R.2 z.2.2⟩ (lw_s_cls fx)
theorem lw8_cPX {L : Nat} {lo hi : Int} {M : gM} {o : Option (Int32 × gM)} {β : Type} {f : Int32 × gM → Option β} {Q : β → Prop} (R : lw8 L M) (h : Ok o (q_PX M lo hi 2 (M.2.1 2 14))) (k : ∀ v M', lw8 L M' → M'.2.1 0 = M.2.1 0 → Ok (f (v, M')) Q) : Ok (o.bind f) Q := by
  refine Ok_b h (fun r z => ?_)
  obtain ⟨v, M'⟩ := r
  have fx := q_Fx_of (a := 151) z.1.2.2
  exact k v M' ⟨⟨lw_cls R.1.1 z.1.2.1 z.1.2.2 rfl rfl rfl, g6_of R.1.2 (g6_cC R.1.1.1 z.1.2.2 (g6_b R.1.1.1 z.1.2.2 rfl) z.2) (g6_cE fx)⟩, lw8_c R.1.1.1 R.2 z.1.2.2⟩ (lw_s_cls fx)
theorem lw8_rPI {S L : Nat} {lo hi : Int} {M : gM} {o : Option (Int32 × gM)} {β : Type} {f : Int32 × gM → Option β} {Q : β → Prop} (R : lw8 L M) (hW : Nat.land S y_wb = 0) (hS : Nat.land S (2 ^ 1 + 2 ^ 2 + 2 ^ 41) = 0) (h6 : Nat.land S (2 ^ 21 + 2 ^ 22 + 2 ^ 59 + 2 ^ 60 + 2 ^ 61) = 0) (h : Ok o (y_PI S M lo hi)) (k : ∀ v M', lw8 L M' → M'.2.1 0 = M.2.1 0 → Ok (f (v, M')) Q) : Ok (o.bind f) Q := by
  refine Ok_b h (fun r z => ?_)
  obtain ⟨v, M'⟩ := r
  exact k v M' ⟨⟨lw_refW R.1.1 z.2.1 z.2.2 hW hS, g6_of R.1.2 (g6_rC z.2.2) (g6_rE z.2.2 h6)⟩, k_Gr R.2 z.2.2⟩ (lw_s_ref z.2.2)
theorem lw8_first (L : Nat) (xs : Nat → Int32) : lw8 L (g_Mc L xs) := ⟨lw6_first L xs, k_G_first L xs⟩
