/-! the class reads a HOUSE -/
def hc_w (e i k : Nat) : Prop := (i = 131 ∧ (k = 5 ∨ k = 7)) ∨ (e ≤ i ∧ i ≤ e + 5) ∨ (143 ≤ i ∧ i ≤ 147)
def hc_Fr (e : Nat) (M M' : gM) : Prop := ((M'.1 = M.1 ∧ M'.2.2.1 = M.2.2.1) ∧ M'.2.2.2 = M.2.2.2) ∧ ∀ i k, ¬ hc_w e i k → M'.2.1 i k = M.2.1 i k
theorem hc_rf {e : Nat} {M : gM} : hc_Fr e M M := ⟨⟨⟨rfl, rfl⟩, rfl⟩, fun _ _ _ => rfl⟩
theorem hc_tr {e : Nat} {M M1 M2 : gM} (h1 : hc_Fr e M M1) (h2 : hc_Fr e M1 M2) : hc_Fr e M M2 := ⟨⟨⟨h2.1.1.1.trans h1.1.1.1, h2.1.1.2.trans h1.1.1.2⟩, h2.1.2.trans h1.1.2⟩, fun i k h => (h2.2 i k h).trans (h1.2 i k h)⟩
theorem hc_57 {e : Nat} {M M' : gM} (h : z_57 M M') : hc_Fr e M M' := ⟨⟨⟨h.1.1.1, h.1.1.2.1⟩, h.1.1.2.2⟩, fun i k hw => h.2 i k (fun z => hw (Or.inl z))⟩
theorem hc_up {e : Nat} {M : gM} {i k : Nat} {v : Int32} (h : hc_w e i k) : hc_Fr e M (mI M i k v) := ⟨⟨⟨rfl, rfl⟩, rfl⟩, fun j a hj => mI_ne (by
  by_cases e1 : j = i
  · subst e1
    refine Or.inr (fun e2 => ?_)
    subst e2
    exact hj h
  · exact Or.inl e1)⟩
def hc_L (M : gM) (e : Nat) : Prop := ((g_k M 136 = (2, 0) ∧ M.2.2.2 136 0 = some 131) ∧ (M.2.2.2 136 1 = some e ∧ M.2.2.2 136 2 = some 143)) ∧ (k_LE M e ∧ k_LS M 143) ∧ 197 ≤ e
def hc_X (M : gM) (e : Nat) (σ : Nat → Int32) : Prop := ((0 ≤ (σ 1).toInt ∧ (σ 1).toInt ≤ 7) ∧ (0 ≤ (σ 2).toInt ∧ (σ 2).toInt ≤ 7) ∧ 0 ≤ (σ 3).toInt ∧ (σ 3).toInt ≤ 10) ∧ (∀ h : Nat, (σ 2).toInt ≤ (h : Int) → h < 7 → M.2.1 (e + 5) h = 0 ∧ ∀ t, t < 7 → M.2.1 145 (7 * h + t) = 0) ∧ ∀ t, t < 7 → M.2.1 147 t = -1
def hc_V (M : gM) (e : Nat) (σ : Nat → Int32) : Prop := (k_E M e σ ∧ k_S M 143 σ) ∧ hc_X M e σ
def hc_R (T M : gM) (e : Nat) (x : hS) : Prop := (z_C T M x.1 ∧ M.2.1 131 7 = 0) ∧ hc_L M e ∧ hc_V M e x.2
def hc_Y (T M : gM) (e er : Nat) : Prop := ((∃ p, z_C T M p) ∧ (M.2.1 131 7).toInt = (er : Int) ∧ er ≠ 0) ∧ hc_L M e
def hc_P (T M : gM) (e : Nat) (r : hs_R) : Prop := match r with
  | .inl er => hc_Y T M e er
  | .inr y => hc_R T M e y
theorem z_Cy {T M M' : gM} {p : Nat} (C : z_C T M p) (h1 : ∀ i, 131 ≤ i → i ≤ 150 → g_k M' i = g_k M i) (h2 : ∀ i k, i = 131 ∨ i = 148 → M'.2.2.2 i k = M.2.2.2 i k) (o : ∀ i k, 131 ≤ i → i ≤ 135 → M'.2.1 i k = M.2.1 i k) : z_C T M' p := by
  obtain ⟨⟨⟨L, B⟩, z1, z2⟩, N, j, hE, ⟨p1, p2⟩, hj, h5, hp⟩ := C
  refine ⟨⟨⟨?_, B⟩, ?_, ?_⟩, N, j, hE, ⟨?_, fun i hi => ?_⟩, hj, ?_, hp⟩
  · unfold z_L at L ⊢
    rw [h1 131 (by omega) (by omega), h1 132 (by omega) (by omega), h1 133 (by omega) (by omega), h1 134 (by omega) (by omega), h1 135 (by omega) (by omega), h1 148 (by omega) (by omega), h1 149 (by omega) (by omega), h1 150 (by omega) (by omega), h2 131 0 (by omega), h2 131 1 (by omega), h2 131 2 (by omega), h2 131 3 (by omega), h2 148 0 (by omega), h2 148 1 (by omega), h2 148 2 (by omega)]
    exact L
  · rw [← z1]
    exact funext (fun k => o 132 k (by omega) (by omega))
  · rw [o 131 6 (by omega) (by omega)]
    exact z2
  · rw [o 131 4 (by omega) (by omega)]
    exact p1
  · rw [o 133 _ (by omega) (by omega), o 134 _ (by omega) (by omega), o 135 _ (by omega) (by omega)]
    exact p2 i hi
  · rw [o 131 5 (by omega) (by omega)]
    exact h5
theorem z_Cx {T M M' : gM} {p : Nat} (C : z_C T M p) (h1 : ∀ i, g_k M' i = g_k M i) (h2 : M'.2.2.2 = M.2.2.2) (o : ∀ i k, 131 ≤ i → i ≤ 135 → M'.2.1 i k = M.2.1 i k) : z_C T M' p := z_Cy C (fun i _ _ => h1 i) (fun i k _ => by rw [h2]) o
theorem hc_Lm {M M' : gM} {e : Nat} (L : hc_L M e) (f : hc_Fr e M M') : hc_L M' e := by
  have hk : ∀ i, g_k M' i = g_k M i := fun i => q_k_of f.1.1.1
  have hr := f.1.2
  obtain ⟨⟨⟨a, b⟩, c, d⟩, ⟨LE, LS⟩, he⟩ := L
  exact ⟨⟨⟨(hk _).trans a, by rw [hr]; exact b⟩, by rw [hr]; exact c, by rw [hr]; exact d⟩, ⟨k_LEm LE hk hr, k_LSm LS hk hr⟩, he⟩
theorem hc_Vm {M M' : gM} {e : Nat} {σ : Nat → Int32} (V : hc_V M e σ) (h : z_57 M M') (he : 197 ≤ e) : hc_V M' e σ := by
  have o : ∀ i k, i ≠ 131 → M'.2.1 i k = M.2.1 i k := fun i k hi => h.2 i k (fun z => hi z.1)
  obtain ⟨⟨E, S⟩, X1, X2, X3⟩ := V
  refine ⟨⟨k_Em E (fun i k h1 h2 _ => o i k (by omega)), k_Sm S (fun i k h1 h2 => o i k (by omega))⟩, X1, fun h h1 h2 => ?_, fun t ht => ?_⟩
  · rw [o (e + 5) h (by omega)]
    refine ⟨(X2 h h1 h2).1, fun t ht => ?_⟩
    rw [o 145 _ (by omega)]
    exact (X2 h h1 h2).2 t ht
  · rw [o 147 t (by omega)]
    exact X3 t ht
theorem C_num {T M : gM} {p : Nat} {lo hi : Int32} {l h : Int} (C : z_C T M p) (f0 : M.2.1 131 7 = 0) (hl : lo.toInt = l) (hh : hi.toInt = h) (h0 : 0 ≤ l) (h1 : h ≤ 999999) : Ok (F_X9_number (some 131) lo hi M) (fun r => z_57 M r.2 ∧ (match hs_num T p l h with
    | .inl er => r.1 = -1 ∧ (∃ q, z_C T r.2 q) ∧ (r.2.2.1 131 7).toInt = (er : Int) ∧ er ≠ 0
    | .inr y => (r.1 = y.2 ∧ l ≤ y.2.toInt ∧ y.2.toInt ≤ h) ∧ z_C T r.2 y.1 ∧ r.2.2.1 131 7 = 0)) := by
  subst hl
  subst hh
  refine Ok_w (C_number C f0 h0 h1) (fun r z => ?_)
  obtain ⟨z1, z2, z3⟩ := z
  unfold hs_num
  by_cases cD : n_D T p = true
  · rw [if_pos cD]
    by_cases cO : n_ok T p lo.toInt hi.toInt = true
    · obtain ⟨a1, a2, a3⟩ := z1 ⟨cD, cO⟩
      rw [if_pos cO]
      exact ⟨z_57a a3, ⟨a1, (of_decide_eq_true cO).2⟩, a2, by rw [a3.2 131 7 (by omega)]; exact f0⟩
    · obtain ⟨a1, a2, a3, a4⟩ := z2 ⟨cD, cO⟩
      rw [if_neg cO]
      exact ⟨z_57b a3, a1, ⟨_, a2⟩, a4, by omega⟩
  · obtain ⟨a1, a2, a3, a4⟩ := z3 cD
    rw [if_neg cD]
    exact ⟨z_57b a3, a1, ⟨_, a2⟩, a4, by omega⟩
theorem hc_Yn {T M : gM} {e er : Nat} (Y : hc_Y T M e er) : M.2.1 131 7 ≠ 0 := by
  intro h
  have := Y.1.2.1
  rw [h] at this
  have z0 : (0 : Int32).toInt = 0 := rfl
  have := Y.1.2.2
  omega
theorem hc_Yk {T M : gM} {e er : Nat} (Y : hc_Y T M e er) : g_k M 131 = (9, 0) := by
  obtain ⟨p, C⟩ := Y.1.1
  exact z_k131 C
/-- in a FAULT a number is passed over -/
theorem x_numF {T M : gM} {e er : Nat} {lo hi : Int32} {β : Type} {f : Int32 × gM → Option β} {Q : β → Prop} (Y : hc_Y T M e er) (g : Ok (f (-1, M)) Q) : Ok ((F_X9_number (some 131) lo hi M).bind f) Q := x_eq (C_numberF (hc_Yk Y) (hc_Yn Y)) g
theorem x_tx {T M : gM} {e er : Nat} {β : Type} {f : Nat → Option β} {Q : β → Prop} (Y : hc_Y T M e er) (g : Ok (f 131) Q) : Ok ((gR 2 M (some 136) 0).bind fun v => (gO 9 M v).bind f) Q := x_gR Y.2.1.1.1 Y.2.1.1.2 (x_gO (hc_Yk Y) g)
theorem x_faultF {T M : gM} {e er : Nat} {β : Type} {f : Int32 → Option β} {Q : β → Prop} (Y : hc_Y T M e er) (g : Ok (f 1) Q) : Ok ((F_X9_isFaulty (some 131) M).bind f) Q := x_eq (by rw [C_faulty (hc_Yk Y), if_neg (hc_Yn Y)]) g
theorem x_fault0 {M : gM} {β : Type} {f : Int32 → Option β} {Q : β → Prop} (k : g_k M 131 = (9, 0)) (h : M.2.1 131 7 = 0) (g : Ok (f 0) Q) : Ok ((F_X9_isFaulty (some 131) M).bind f) Q := x_eq (by rw [C_faulty k, if_pos h]) g
theorem hc_sq {T M : gM} {e : Nat} {p : Nat} {σ : Nat → Int32} {M' : gM} (L : hc_L M e) (V : hc_V M e σ) (h : z_57 M M') (C : z_C T M' p) (f : M'.2.1 131 7 = 0) : hc_R T M' e (p, σ) := ⟨⟨C, f⟩, hc_Lm L (hc_57 h), hc_Vm V h L.2.2⟩
/-- one number of a clause: read, or a FAULT -/
theorem x_num {T M M0 : gM} {e : Nat} {x : hS} {lo hi : Int32} {l h : Int} {β : Type} {f : Int32 × gM → Option β} {Q : β → Prop} (R : hc_R T M e x) (F : hc_Fr e M0 M) (hl : lo.toInt = l) (hh : hi.toInt = h) (h0 : 0 ≤ l) (h1 : h ≤ 999999)
    (bad : ∀ er M', hs_num T x.1 l h = .inl er → hc_Fr e M0 M' → hc_Y T M' e er → Ok (f (-1, M')) Q)
    (go : ∀ y M', hs_num T x.1 l h = .inr y → hc_Fr e M0 M' → hc_R T M' e (y.1, x.2) → (l ≤ y.2.toInt ∧ y.2.toInt ≤ h) → Ok (f (y.2, M')) Q) : Ok ((F_X9_number (some 131) lo hi M).bind f) Q := by
  refine Ok_b (C_num R.1.1 R.1.2 hl hh h0 h1) (fun r z => ?_)
  obtain ⟨v, M'⟩ := r
  obtain ⟨z1, z2⟩ := z
  have F' := hc_tr F (hc_57 (e := e) z1)
  cases hit : hs_num T x.1 l h with
  | inl er =>
    rw [hit] at z2
    obtain ⟨a, b, c, d⟩ := z2
    dsimp only at a
    subst a
    exact bad er M' hit F' ⟨⟨b, c, d⟩, hc_Lm R.2.1 (hc_57 z1)⟩
  | inr y =>
    rw [hit] at z2
    obtain ⟨⟨a, b⟩, c, d⟩ := z2
    dsimp only at a
    subst a
    exact go y M' hit F' (hc_sq R.2.1 R.2.2 z1 c d) b
theorem x_txR {T M : gM} {e : Nat} {x : hS} {β : Type} {f : Nat → Option β} {Q : β → Prop} (R : hc_R T M e x) (g : Ok (f 131) Q) : Ok ((gR 2 M (some 136) 0).bind fun v => (gO 9 M v).bind f) Q := x_gR R.2.1.1.1.1 R.2.1.1.1.2 (x_gO (z_k131 R.1.1) g)
theorem k_cm {M M' : gM} {s h t : Nat} {σ σ' : Nat → Int32} (H : k_c M s σ h t) (h1 : M'.2.1 (s + 1) (7 * h + t) = M.2.1 (s + 1) (7 * h + t)) (h2 : M'.2.1 (s + 2) (7 * h + t) = M.2.1 (s + 2) (7 * h + t)) (h3 : σ' (59 + 14 * h + 2 * t) = σ (59 + 14 * h + 2 * t)) (h4 : σ' (60 + 14 * h + 2 * t) = σ (60 + 14 * h + 2 * t)) : k_c M' s σ' h t := by
  unfold k_c at H ⊢
  rw [h1, h2, h3, h4]
  exact H
/-! clauses -/
theorem C_readThing {T M : gM} {e : Nat} {x : hS} (R : hc_R T M e x) (hn : (x.2 1).toInt < 7) : Ok (F_X2_readThing (some 136) M) (fun M' => hc_Fr e M M' ∧ hc_P T M' e (hs_thing T x)) := by
  delta F_X2_readThing F_X2_readThing_b0
  refine x_txR R ?_
  unfold hs_thing
  refine x_num R hc_rf (l := 0) (h := 9) rfl rfl (by decide) (by decide) (fun er M4 hit F4 Y => ?_) (fun y3 M4 hit F4 R4 v3 => ?_)
  · rw [hit, hs_bl]
    refine x_tx Y (x_numF Y ?_)
    refine x_tx Y (x_numF Y ?_)
    refine x_tx Y (x_faultF Y ?_)
    exact Ok_e (by decide) (Ok_s ⟨F4, Y⟩)
  rw [hit, hs_br]
  refine x_txR R4 ?_
  refine x_num R4 F4 (l := 0) (h := 20) rfl rfl (by decide) (by decide) (fun er M8 hit F8 Y => ?_) (fun y7 M8 hit F8 R8 v7 => ?_)
  · dsimp only at hit ⊢
    rw [hit, hs_bl]
    refine x_tx Y (x_numF Y ?_)
    refine x_tx Y (x_faultF Y ?_)
    exact Ok_e (by decide) (Ok_s ⟨F8, Y⟩)
  dsimp only at hit ⊢
  rw [hit, hs_br]
  refine x_txR R8 ?_
  refine x_num R8 F8 (l := 0) (h := 99) rfl rfl (by decide) (by decide) (fun er M12 hit F12 Y => ?_) (fun y11 M12 hit F12 R12 v11 => ?_)
  · dsimp only at hit ⊢
    rw [hit, hs_bl]
    refine x_tx Y (x_faultF Y ?_)
    exact Ok_e (by decide) (Ok_s ⟨F12, Y⟩)
  dsimp only at hit ⊢
  rw [hit, hs_br]
  refine x_txR R12 ?_
  obtain ⟨⟨C, f0⟩, L, ⟨⟨E1, E2, E3, E4⟩, S1, S2, S3⟩, X1, X2, X3⟩ := R12
  dsimp only at C E1 E2 E3 E4 S1 S2 S3 X1 X2 X3
  refine x_fault0 (z_k131 C) f0 ?_
  refine Ok_t rfl ?_
  obtain ⟨⟨⟨k136, r0⟩, r1, r2⟩, ⟨⟨ke, kr⟩, LS⟩, he⟩ := L
  have L0 : hc_L M12 e := ⟨⟨⟨k136, r0⟩, r1, r2⟩, ⟨⟨ke, kr⟩, LS⟩, he⟩
  have a1 : M12.2.2.2 e 0 = some (e + 1) := (kr 0 (by decide)).2
  have a2 : M12.2.2.2 e 1 = some (e + 2) := (kr 1 (by decide)).2
  have a3 : M12.2.2.2 e 2 = some (e + 3) := (kr 2 (by decide)).2
  have b1 : g_k M12 (e + 1) = (20, 7) := (kr 0 (by decide)).1
  have b2 : g_k M12 (e + 2) = (20, 7) := (kr 1 (by decide)).1
  have b3 : g_k M12 (e + 3) = (20, 7) := (kr 2 (by decide)).1
  have z7 : (7 : Int32).toInt = 7 := rfl
  obtain ⟨n, en⟩ : ∃ n : Nat, (x.2 1).toInt = (n : Int) := ⟨(x.2 1).toInt.toNat, by omega⟩
  have hnn : hs_n x.2 = n := i_cl en
  have inc : (x.2 1 + 1).toInt = (n : Int) + 1 := by rw [i_addc (n := 1) rfl (by omega) (by omega)]; omega
  refine x_gR k136 r1 (x_gI ke E1.1.1 ?_)
  refine Ok_e (fun c => by have := i_le c; omega) ?_
  refine x_gR k136 r1 (x_gR ke a1 (x_gR k136 r1 (x_gI ke E1.1.1 ?_)))
  refine x_sI b1 en (by omega) ?_
  refine x_gR k136 r1 (x_gR ke a2 (x_gR k136 r1 (x_gI ke ((mI_ne (Or.inl (by omega))).trans E1.1.1) ?_)))
  refine x_sI b2 en (by omega) ?_
  refine x_gR k136 r1 (x_gR ke a3 (x_gR k136 r1 (x_gI ke (((mI_ne (Or.inl (by omega))).trans (mI_ne (Or.inl (by omega)))).trans E1.1.1) ?_)))
  refine x_sI b3 en (by omega) ?_
  refine x_gR k136 r1 (x_gI ke ((((mI_ne (Or.inl (by omega))).trans (mI_ne (Or.inl (by omega)))).trans (mI_ne (Or.inl (by omega)))).trans E1.1.1) ?_)
  refine x_pI ke ?_
  obtain ⟨M35, h35⟩ : ∃ M35, M35 = mI (mI (mI (mI M12 (e + 1) n y3.2) (e + 2) n y7.2) (e + 3) n y11.2) e 6 (x.2 1 + 1) := ⟨_, rfl⟩
  rw [← h35]
  have o : ∀ i k, M35.2.1 i k = if i = e ∧ k = 6 then x.2 1 + 1 else if i = e + 3 ∧ k = n then y11.2 else if i = e + 2 ∧ k = n then y7.2 else if i = e + 1 ∧ k = n then y3.2 else M12.2.1 i k := fun i k => by
    rw [h35]
    simp only [mI_if]
  have F35 : hc_Fr e M12 M35 := by
    rw [h35]
    exact hc_tr (hc_up (by unfold hc_w; omega)) (hc_tr (hc_up (by unfold hc_w; omega)) (hc_tr (hc_up (by unfold hc_w; omega)) (hc_up (by unfold hc_w; omega))))
  have oo : ∀ i k, i < e → M35.2.1 i k = M12.2.1 i k := fun i k hi => by
    rw [o, if_neg (by omega), if_neg (by omega), if_neg (by omega), if_neg (by omega)]
  clear h35
  rw [hnn]
  have oe : ∀ k, k ≠ 6 → M35.2.1 e k = M12.2.1 e k := fun k hk => by
    rw [o, if_neg (by omega), if_neg (by omega), if_neg (by omega), if_neg (by omega)]
  have of : ∀ i k, i < e ∨ e + 3 < i → M35.2.1 i k = M12.2.1 i k := fun i k hi => by
    rw [o, if_neg (by omega), if_neg (by omega), if_neg (by omega), if_neg (by omega)]
  have oa : ∀ i k, e < i → k ≠ n → M35.2.1 i k = M12.2.1 i k := fun i k hi hk => by
    rw [o, if_neg (by omega), if_neg (by omega), if_neg (by omega), if_neg (by omega)]
  obtain ⟨σ, hσ⟩ : ∃ σ, σ = hs_set (hs_set (hs_set (hs_set (hs_set x.2 (10 + 4 * n) y3.2) (11 + 4 * n) y7.2) (12 + 4 * n) y11.2) (13 + 4 * n) (-1)) 1 (x.2 1 + 1) := ⟨_, rfl⟩
  rw [← hσ]
  have s : ∀ j, σ j = if j = 1 then x.2 1 + 1 else if j = 13 + 4 * n then -1 else if j = 12 + 4 * n then y11.2 else if j = 11 + 4 * n then y7.2 else if j = 10 + 4 * n then y3.2 else x.2 j := fun j => by
    rw [hσ]
    rfl
  have sk : ∀ j, j ≠ 1 → j < 10 + 4 * n ∨ 13 + 4 * n < j → σ j = x.2 j := fun j h1 h2 => by
    rw [s, if_neg (by omega), if_neg (by omega), if_neg (by omega), if_neg (by omega), if_neg (by omega)]
  have s1 : σ 1 = x.2 1 + 1 := by rw [s, if_pos rfl]
  clear hσ
  refine Ok_s ⟨hc_tr F12 F35, ⟨z_Cx C (fun i => q_k_of F35.1.1.1) F35.1.2 (fun i k h1 h2 => oo i k (by omega)), by rw [oo 131 7 (by omega)]; exact f0⟩, hc_Lm L0 F35, ⟨⟨⟨⟨?_, ?_⟩, ?_⟩, ⟨?_, ?_⟩, fun t ht => ?_, fun h hh => ?_⟩, ⟨⟨?_, ?_⟩, ?_⟩, fun h hh => ?_, fun t ht => ?_⟩, ⟨?_, ?_, ?_⟩, fun h h1 h2 => ?_, fun t ht => ?_⟩
  all_goals try dsimp only at *
  · rw [o, if_pos ⟨rfl, rfl⟩, s1]
  · rw [oe 7 (by decide), sk 2 (by decide) (by omega)]
    exact E1.1.2
  · rw [oe 8 (by decide), sk 3 (by decide) (by omega)]
    exact E1.2
  · rw [oe 9 (by decide), sk 7 (by decide) (by omega)]
    exact E2.1
  · rw [oe 10 (by decide), sk 6 (by decide) (by omega)]
    exact E2.2
  · rw [s1, inc] at ht
    by_cases et : t = n
    · subst et
      refine ⟨⟨?_, ?_⟩, ?_⟩
      · rw [o, if_neg (by omega), if_neg (by omega), if_neg (by omega), if_pos ⟨rfl, rfl⟩, s, if_neg (by omega), if_neg (by omega), if_neg (by omega), if_neg (by omega), if_pos rfl]
      · rw [o, if_neg (by omega), if_neg (by omega), if_pos ⟨rfl, rfl⟩, s, if_neg (by omega), if_neg (by omega), if_neg (by omega), if_pos rfl]
      · rw [o, if_neg (by omega), if_pos ⟨rfl, rfl⟩, s, if_neg (by omega), if_neg (by omega), if_pos rfl]
    · rw [oa (e + 1) t (by omega) et, oa (e + 2) t (by omega) et, oa (e + 3) t (by omega) et, sk (10 + 4 * t) (by omega) (by omega), sk (11 + 4 * t) (by omega) (by omega), sk (12 + 4 * t) (by omega) (by omega)]
      exact E3 t (by omega)
  · rw [sk 2 (by decide) (by omega)] at hh
    rw [of (e + 4) h (by omega), of (e + 5) h (by omega), sk (39 + 2 * h) (by omega) (by omega), sk (52 + h) (by omega) (by omega)]
    exact E4 h hh
  · rw [of 143 4 (by omega), sk 8 (by decide) (by omega)]
    exact S1.1.1
  · rw [of 143 5 (by omega), sk 4 (by decide) (by omega)]
    exact S1.1.2
  · rw [of 143 6 (by omega), sk 5 (by decide) (by omega)]
    exact S1.2
  · rw [sk 2 (by decide) (by omega)] at hh
    rw [of 146 h (by omega), sk (38 + 2 * h) (by omega) (by omega)]
    exact ⟨(S2 h hh).1, fun t ht => k_cm ((S2 h hh).2 t ht) (of 144 _ (by omega)) (of 145 _ (by omega)) (sk _ (by omega) (by omega)) (sk _ (by omega) (by omega))⟩
  · rw [s1, inc] at ht
    rw [of 147 t (by omega)]
    by_cases et : t = n
    · subst et
      rw [s, if_neg (by omega), if_pos rfl]
      exact X3 t (by omega)
    · rw [sk (13 + 4 * t) (by omega) (by omega)]
      exact S3 t (by omega)
  · rw [s1, inc]
    omega
  · rw [sk 2 (by decide) (by omega)]
    exact X1.2.1
  · rw [sk 3 (by decide) (by omega)]
    exact X1.2.2
  · rw [sk 2 (by decide) (by omega)] at h1
    rw [of (e + 5) h (by omega)]
    refine ⟨(X2 h h1 h2).1, fun t ht => ?_⟩
    rw [of 145 _ (by omega)]
    exact (X2 h h1 h2).2 t ht
  · rw [of 147 t (by omega)]
    exact X3 t ht
