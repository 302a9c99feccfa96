/-! the bytes are split: the pieces are the signs from place to place -/
def k_two (T : gM) (p : Nat) : Bool := decide ((n_ca T p = 60 ∨ n_ca T p = 62) ∧ n_ca T (p + 1) = 61)
def k_kind (T : gM) (p : Nat) : Int := if n_s T ≤ p then 256 else if n_L T p = true then k_w T p else if n_D T p = true then 257 else if k_two T p = true then (if n_ca T p = 60 then 258 else 259) else (n_ca T p).toInt
def k_end (T : gM) (p : Nat) : Nat := if n_L T p = true then n_le T p else if n_D T p = true then n_de T p else if k_two T p = true then p + 2 else p + 1
def k_v0 (T : gM) (p : Nat) : Int32 := if n_D T p = true then k_val T p else 0
def k_nx (T : gM) (p : Nat) : Nat := n_sk T (k_end T p)
def k_pl (T : gM) : Nat → Nat
  | 0 => n_sk T 0
  | j + 1 => k_nx T (k_pl T j)
theorem k_two_lt {T : gM} {p : Nat} (h : k_two T p = true) : p + 1 < n_s T := by
  have h1 := (of_decide_eq_true h).2
  rcases Nat.lt_or_ge (p + 1) (n_s T) with e | e
  · exact e
  · rw [n_ca_end e] at h1
    exact absurd h1 (by decide)
theorem k_end_r {T : gM} {p : Nat} (h : p < n_s T) : p < k_end T p ∧ k_end T p ≤ n_s T := by
  unfold k_end
  by_cases c1 : n_L T p = true
  · rw [if_pos c1, n_le_step c1]
    have := n_le_le (M := T) (p := p + 1) (by omega)
    omega
  · rw [if_neg c1]
    by_cases c2 : n_D T p = true
    · rw [if_pos c2, n_de_step c2]
      have := n_de_le (M := T) (p := p + 1) (by omega)
      omega
    · rw [if_neg c2]
      by_cases c3 : k_two T p = true
      · rw [if_pos c3]
        have := k_two_lt c3
        omega
      · rw [if_neg c3]
        omega
theorem k_nx_r {T : gM} {p : Nat} (h : p < n_s T) : p < k_nx T p ∧ k_nx T p ≤ n_s T := by
  have h1 := k_end_r h
  have h2 := n_sk_le (M := T) (p := k_end T p) h1.2
  unfold k_nx
  omega
/-- what the readers write -/
def z_W (i k : Nat) : Prop := (i = 131 ∧ (k = 4 ∨ k = 5 ∨ k = 7)) ∨ (i = 133 ∨ i = 134 ∨ i = 135) ∨ (i = 148 ∧ (k = 3 ∨ k = 4 ∨ k = 5)) ∨ i = 149 ∨ i = 150
def z_Fr (M M' : gM) : Prop := (M'.1 = M.1 ∧ M'.2.2.1 = M.2.2.1 ∧ M'.2.2.2 = M.2.2.2) ∧ ∀ i k, ¬ z_W i k → M'.2.1 i k = M.2.1 i k
theorem z_rf {M : gM} : z_Fr M M := ⟨⟨rfl, rfl, rfl⟩, fun _ _ _ => rfl⟩
theorem z_tr {M M1 M2 : gM} (h1 : z_Fr M M1) (h2 : z_Fr M1 M2) : z_Fr M M2 := ⟨⟨h2.1.1.trans h1.1.1, h2.1.2.1.trans h1.1.2.1, h2.1.2.2.trans h1.1.2.2⟩, fun i k h => (h2.2 i k h).trans (h1.2 i k h)⟩
theorem z_up {M : gM} {i k : Nat} {v : Int32} (h : z_W i k) : z_Fr M (mI M i k v) := ⟨⟨rfl, rfl, rfl⟩, fun j a hj => mI_ne (by
  by_cases e : j = i
  · refine Or.inr (fun e2 => hj ?_)
    subst e
    subst e2
    exact h
  · exact Or.inl e)⟩
theorem z_Lm {M M' : gM} (h : z_L M) (f : z_Fr M M') : z_L M' := by
  have hk : ∀ i, g_k M' i = g_k M i := fun i => q_k_of f.1.1
  unfold z_L at h ⊢
  simp only [hk, f.1.2.2]
  exact h
theorem z_Tm {T M M' : gM} (Z : z_T T M) (f : z_Fr M M') : z_T T M' := by
  refine ⟨⟨z_Lm Z.1.1 f, Z.1.2⟩, ?_, ?_⟩
  · rw [← Z.2.1]
    exact funext (fun k => f.2 132 k (by unfold z_W; omega))
  · rw [f.2 131 6 (by unfold z_W; omega)]
    exact Z.2.2
/-- j pieces stand -/
def z_P (T M : gM) (j : Nat) : Prop := (M.2.1 131 4).toInt = (j : Int) ∧ ∀ i, i < j → ((M.2.1 133 i).toInt = k_kind T (k_pl T i) ∧ (M.2.1 134 i).toInt = (k_pl T i : Int)) ∧ M.2.1 135 i = k_v0 T (k_pl T i)
theorem C_add {T M : gM} {j x : Nat} {l1 l2 l3 : Int32} (Z : z_T T M) (P : z_P T M j) (hj : j ≤ 400) (hx : k_pl T j = x) (h1 : l1.toInt = k_kind T x) (h2 : l2.toInt = (x : Int)) (h3 : l3 = k_v0 T x) : Ok (F_X9_add (some 131) l1 l2 l3 M) (fun M' => z_Fr M M' ∧ z_P T M' (j + 1) ∧ (M'.2.1 131 5 = M.2.1 131 5 ∧ M'.2.1 131 7 = M.2.1 131 7)) := by
  obtain ⟨⟨⟨⟨⟨⟨k1, k2⟩, ⟨k3, k4⟩, k5⟩, _⟩, ⟨⟨r0, r1⟩, r2, r3⟩, _⟩, B⟩, eb, es⟩ := Z
  obtain ⟨p1, p2⟩ := P
  have cj : (M.2.1 131 4).toNatClampNeg = j := i_cl p1
  have i401 : (Int32.ofNat 401).toInt = 401 := rfl
  delta F_X9_add F_X9_add_b0
  rw [t_gI k1, Option.bind_some, t_gR k1 r1, Option.bind_some, t_aN k3 (by decide), Option.bind_some, if_neg (fun z => by have := i_le z; omega)]
  rw [Option.bind_some, Option.bind_some, t_sI k3 (by omega) (by omega), Option.bind_some, cj]
  obtain ⟨M6, e6⟩ : ∃ M6, M6 = mI M 133 j l1 := ⟨_, rfl⟩
  rw [← e6]
  have a6 : M6.2.1 131 4 = M.2.1 131 4 := by rw [e6]; exact mI_ne (Or.inl (by decide))
  have g6 : g_k M6 131 = (9, 0) ∧ g_k M6 134 = (20, 401) := by rw [e6]; exact ⟨k1, k4⟩
  have r6 : M6.2.2.2 131 2 = some 134 := by rw [e6]; exact r2
  rw [t_gR g6.1 r6, Option.bind_some, t_gI g6.1, Option.bind_some, a6, t_sI g6.2 (by omega) (by omega), Option.bind_some, cj]
  obtain ⟨M9, e9⟩ : ∃ M9, M9 = mI M6 134 j l2 := ⟨_, rfl⟩
  rw [← e9]
  have a9 : M9.2.1 131 4 = M.2.1 131 4 := by rw [e9, mI_ne (Or.inl (by decide)), a6]
  have g9 : g_k M9 131 = (9, 0) ∧ g_k M9 135 = (20, 401) := by rw [e9, e6]; exact ⟨k1, k5⟩
  have r9 : M9.2.2.2 131 3 = some 135 := by rw [e9, e6]; exact r3
  rw [t_gR g9.1 r9, Option.bind_some, t_gI g9.1, Option.bind_some, a9, t_sI g9.2 (by omega) (by omega), Option.bind_some, cj]
  obtain ⟨M12, e12⟩ : ∃ M12, M12 = mI M9 135 j l3 := ⟨_, rfl⟩
  rw [← e12]
  have a12 : M12.2.1 131 4 = M.2.1 131 4 := by rw [e12, mI_ne (Or.inl (by decide)), a9]
  have g12 : g_k M12 131 = (9, 0) := by rw [e12, e9, e6]; exact k1
  rw [t_gI g12, Option.bind_some, t_pI g12, Option.bind_some, a12, n_inc p1 (by omega)]
  have fr : z_Fr M (mI M12 131 4 (Int32.ofNat (j + 1))) := by
    refine z_tr ?_ (z_up (by unfold z_W; omega))
    rw [e12]
    refine z_tr ?_ (z_up (by unfold z_W; omega))
    rw [e9]
    refine z_tr ?_ (z_up (by unfold z_W; omega))
    rw [e6]
    exact z_up (by unfold z_W; omega)
  have b3 : ∀ i, (mI M12 131 4 (Int32.ofNat (j + 1))).2.1 133 i = (mI M 133 j l1).2.1 133 i := fun i => by rw [mI_ne (Or.inl (by decide)), e12, mI_ne (Or.inl (by decide)), e9, mI_ne (Or.inl (by decide)), e6]
  have b4 : ∀ i, (mI M12 131 4 (Int32.ofNat (j + 1))).2.1 134 i = (mI M6 134 j l2).2.1 134 i := fun i => by rw [mI_ne (Or.inl (by decide)), e12, mI_ne (Or.inl (by decide)), e9]
  have b5 : ∀ i, (mI M12 131 4 (Int32.ofNat (j + 1))).2.1 135 i = (mI M9 135 j l3).2.1 135 i := fun i => by rw [mI_ne (Or.inl (by decide)), e12]
  refine Ok_s ⟨fr, ⟨by rw [y_mI1, i_ofNat (by omega)], fun i hi => ?_⟩, ?_⟩
  · rw [b3, b4, b5]
    rcases Nat.lt_or_ge i j with h | h
    · rw [mI_ne (Or.inr (by omega)), mI_ne (Or.inr (by omega)), mI_ne (Or.inr (by omega)), e9, mI_ne (Or.inl (by decide)), e6, mI_ne (Or.inl (by decide)), mI_ne (Or.inl (by decide))]
      exact p2 i h
    · have e : i = j := by omega
      subst e
      rw [y_mI1, y_mI1, y_mI1, hx]
      exact ⟨⟨h1, h2⟩, h3⟩
  · have o : ∀ k, k ≠ 4 → (mI M12 131 4 (Int32.ofNat (j + 1))).2.1 131 k = M.2.1 131 k := fun k hk => by rw [mI_ne (Or.inr hk), e12, mI_ne (Or.inl (by decide)), e9, mI_ne (Or.inl (by decide)), e6, mI_ne (Or.inl (by decide))]
    exact ⟨o 5 (by decide), o 7 (by decide)⟩
/-- N pieces ahead of the end -/
def z_E (T : gM) (N : Nat) : Prop := k_pl T N = n_s T ∧ ∀ i, i < N → k_pl T i < n_s T
def z_Sp (T M : gM) : gM → Prop := fun M' => z_Fr M M' ∧ (∃ N, z_E T N ∧ z_P T M' (N + 1)) ∧ (M'.2.1 131 5 = M.2.1 131 5 ∧ M'.2.1 131 7 = M.2.1 131 7)
theorem C_split_L19 {T : gM} : ∀ (n x i j : Nat) {l1 l2 : Int32} {M : gM}, z_T T M → z_P T M j → l1.toInt = (x : Int) → x ≤ n_s T → l2.toInt = (i : Int) → i ≤ x → j ≤ x → n_sk T x = k_pl T j → (∀ i, i < j → k_pl T i < n_s T) → n_s T - x < n → Ok (F_X9_split_L19 n (some 131) l1 l2 M) (z_Sp T M) := by
  intro n
  induction n with
  | zero => intro x i j l1 l2 M Z P h1 h2 h3 h4 h5 h6 h7 h8; omega
  | succ n ih =>
    intro x i j l1 l2 M Z P h1 h2 h3 h4 h5 h6 h7 h8
    show Ok (F_X9_split_b19 (F_X9_split_L19 n) (some 131) l1 l2 M) _
    have k1 := Z.1.1.1.1.1.1
    have B := Z.1.2
    have es := Z.2.2
    have hb := B.2
    have z4 : (400 : Int32).toInt = 400 := rfl
    have ended : n_s T ≤ x → Ok (F_X9_split_b187 (some 131) M) (z_Sp T M) := by
      intro h
      have ex : x = n_s T := by omega
      have esk : n_sk T x = x := n_sk_stop (fun z => by have := (of_decide_eq_true z).1; omega)
      have ep : k_pl T j = n_s T := by rw [← h6, esk, ex]
      delta F_X9_split_b187
      rw [t_gI k1, Option.bind_some, t_gO k1, Option.bind_some]
      refine Ok_b (C_add Z P (by omega) ep ?_ es ?_) (fun M3 z => ?_)
      · unfold k_kind
        rw [if_pos (Nat.le_refl _)]
        rfl
      · unfold k_v0
        rw [if_neg (fun z => by have := (of_decide_eq_true z).1; omega)]
      · exact Ok_s ⟨z.1, ⟨j, ⟨ep, h7⟩, z.2.1⟩, z.2.2⟩
    delta F_X9_split_b19
    refine Ok_i (fun c => ended (by have := i_le c; omega)) (fun c => ?_)
    rw [t_gI k1, Option.bind_some]
    refine Ok_i (fun c2 => ended (by have := i_le c2; omega)) (fun c2 => ?_)
    have hlt : x < n_s T := by have := i_nle c2; omega
    rw [t_gO k1, Option.bind_some, C_byteAt Z h1, Option.bind_some, C_isLetterAt B, Option.bind_some]
    -- a piece at x, and on behind it
    have piece : ∀ {k w e : Int32}, n_B T x ≠ true → k.toInt = k_kind T x → w = k_v0 T x → e.toInt = (k_end T x : Int) → Ok ((F_X9_add (some 131) k l1 w M).bind fun M2 => F_X9_split_L19 n (some 131) e (l2 + 1) M2) (z_Sp T M) := by
      intro k w e hB hk hw he
      have ep : k_pl T j = x := by rw [← h6, n_sk_stop hB]
      have ke := k_end_r hlt
      refine Ok_b (C_add Z P (by omega) ep hk h1 hw) (fun M2 z => ?_)
      refine Ok_w (ih (k_end T x) (i + 1) (j + 1) (z_Tm Z z.1) z.2.1 he ke.2 (by rw [show (l2 + 1 : Int32) = Int32.ofNat (i + 1) from n_inc h3 (by omega), i_ofNat (by omega)]) (by omega) (by omega) ?_ (fun a ha => ?_) (by omega)) (fun M3 q => ?_)
      · show n_sk T (k_end T x) = k_nx T (k_pl T j)
        rw [ep]
        rfl
      · rcases Nat.lt_or_ge a j with h | h
        · exact h7 a h
        · have : a = j := by omega
          rw [this, ep]
          exact hlt
      · exact ⟨z_tr z.1 q.1, q.2.1, q.2.2.1.trans z.2.2.1, q.2.2.2.trans z.2.2.2⟩
    have b178 : ∀ {M1 : gM} {e : Int32}, F_X9_split_b178 (F_X9_split_L19 n) (some 131) l2 e M1 = F_X9_split_L19 n (some 131) e (l2 + 1) M1 := fun {M1 e} => rfl
    by_cases cL : n_L T x = true
    · have hw := n_LD cL
      rw [if_pos cL, if_neg (by decide)]
      delta F_X9_split_b54
      rw [t_gO k1, Option.bind_some]
      refine Ok_b (C_endOfRun Z h1 true cL) (fun v2 hv => ?_)
      have ele : n_re T true x = n_le T x := rfl
      rw [ele] at hv
      have ke : k_end T x = n_le T x := by unfold k_end; rw [if_pos cL]
      delta F_X9_split_b65
      rw [C_isLetterAt B, Option.bind_some, if_pos cL, if_neg (by decide), t_gO k1, Option.bind_some]
      have kr := k_end_r hlt
      refine Ok_b (C_wordKind Z h1 hv (by omega) (by omega)) (fun v7 h7' => ?_)
      refine piece (by rw [n_BL cL]; decide) ?_ ?_ (by rw [ke]; exact hv)
      · rw [h7']
        unfold k_kind
        rw [if_neg (by omega), if_pos cL]
      · unfold k_v0
        rw [if_neg (by rw [hw]; decide)]
    · rw [if_neg cL, if_pos rfl, C_isDigitAt B, Option.bind_some]
      by_cases cD : n_D T x = true
      · rw [if_pos cD, if_neg (by decide)]
        delta F_X9_split_b54
        rw [t_gO k1, Option.bind_some]
        refine Ok_b (C_endOfRun Z h1 false cD) (fun v2 hv => ?_)
        have ele : n_re T false x = n_de T x := rfl
        rw [ele] at hv
        have ke : k_end T x = n_de T x := by unfold k_end; rw [if_neg cL, if_pos cD]
        delta F_X9_split_b65
        rw [C_isLetterAt B, Option.bind_some, if_neg cL, if_pos rfl, C_isDigitAt B, Option.bind_some, if_pos cD, if_neg (by decide), t_gO k1, Option.bind_some, C_valueOf Z h1 hv (by omega), Option.bind_some]
        refine piece (by rw [n_BD cD]; decide) ?_ ?_ (by rw [ke]; exact hv)
        · unfold k_kind
          rw [if_neg (by omega), if_neg cL, if_pos cD]
          rfl
        · unfold k_v0
          rw [if_pos cD]
      · rw [if_neg cD, if_pos rfl]
        delta F_X9_split_b65
        rw [C_isLetterAt B, Option.bind_some, if_neg cL, if_pos rfl, C_isDigitAt B, Option.bind_some, if_neg cD, if_pos rfl]
        have i1 : (l1 + (1 : Int32)).toInt = ((x + 1 : Nat) : Int) := by rw [n_inc h1 (by omega), i_ofNat (by omega)]
        -- a sign of one byte, or a blank
        have one : k_two T x ≠ true → Ok (F_X9_split_b165 (F_X9_split_L19 n) (some 131) l1 l2 (n_ca T x) (l1 + (1 : Int32)) M) (z_Sp T M) := by
          intro h2'
          have ke : k_end T x = x + 1 := by unfold k_end; rw [if_neg cL, if_neg cD, if_neg h2']
          delta F_X9_split_b165
          refine Ok_i (fun c32 => ?_) (fun c32 => ?_)
          · rw [b178]
            have hB : n_B T x = true := by
              refine decide_eq_true ⟨hlt, Int32.toInt_inj.mp ?_⟩
              have r := n_ca_r B hlt
              have := B.1 x
              have z32 : (32 : Int32).toInt = 32 := rfl
              rw [c32] at r
              rw [z32] at r ⊢
              split at r <;> omega
            exact ih (x + 1) (i + 1) j Z P i1 (by omega) (by rw [show (l2 + 1 : Int32) = Int32.ofNat (i + 1) from n_inc h3 (by omega), i_ofNat (by omega)]) (by omega) (by omega) (by rw [← n_sk_step hB]; exact h6) h7 (by omega)
          · rw [t_gO k1, Option.bind_some]
            refine piece (fun z => c32 ?_) ?_ ?_ (by rw [ke]; exact i1)
            · have e := (of_decide_eq_true z).2
              unfold n_ca
              rw [if_pos hlt, e]
              rfl
            · unfold k_kind
              rw [if_neg (by omega), if_neg cL, if_neg cD, if_neg h2']
            · unfold k_v0
              rw [if_neg cD]
        have two : (n_ca T x = 60 ∨ n_ca T x = 62) → Ok (F_X9_split_b127 (F_X9_split_L19 n) (some 131) l1 l2 (n_ca T x) (l1 + (1 : Int32)) M) (z_Sp T M) := by
          intro h60
          delta F_X9_split_b127
          rw [t_gO k1, Option.bind_some, C_byteAt Z i1, Option.bind_some]
          refine Ok_i (fun c61 => ?_) (fun c61 => one (fun z => c61 (of_decide_eq_true z).2))
          have h2' : k_two T x = true := decide_eq_true ⟨h60, c61⟩
          have ke : k_end T x = x + 2 := by unfold k_end; rw [if_neg cL, if_neg cD, if_pos h2']
          have i2 : (l1 + (1 : Int32) + 1).toInt = ((x + 2 : Nat) : Int) := by rw [show (l1 + (1 : Int32) + 1 : Int32) = Int32.ofNat (x + 1 + 1) from n_inc i1 (by omega), i_ofNat (by omega)]
          have nB : n_B T x ≠ true := by
            intro z
            have e := (of_decide_eq_true z).2
            have : n_ca T x = 32 := by
              unfold n_ca
              rw [if_pos hlt, e]
              rfl
            rcases h60 with e | e <;> (rw [e] at this; exact absurd this (by decide))
          have vk : k_v0 T x = 0 := by unfold k_v0; rw [if_neg cD]
          have kk : k_kind T x = (if n_ca T x = 60 then 258 else 259) := by
            unfold k_kind
            rw [if_neg (by omega), if_neg cL, if_neg cD, if_pos h2']
          refine Ok_i (fun c60 => ?_) (fun c60 => ?_)
          · delta F_X9_split_b154
            rw [t_gO k1, Option.bind_some]
            exact piece nB (by rw [kk, if_pos c60]; rfl) vk.symm (by rw [ke]; exact i2)
          · delta F_X9_split_b154
            rw [t_gO k1, Option.bind_some]
            exact piece nB (by rw [kk, if_neg c60]; rfl) vk.symm (by rw [ke]; exact i2)
        refine Ok_i (fun c60 => two (Or.inl c60)) (fun c60 => Ok_i (fun c62 => two (Or.inr c62)) (fun c62 => one (fun z => ?_)))
        rcases (of_decide_eq_true z).1 with e | e
        · exact c60 e
        · exact c62 e
theorem C_split {T M : gM} (Z : z_T T M) : Ok (F_X9_split (some 131) M) (fun M' => z_Fr M M' ∧ (∃ N, z_E T N ∧ z_P T M' (N + 1)) ∧ (M'.2.1 131 5 = 0 ∧ M'.2.1 131 7 = 0)) := by
  have k1 := Z.1.1.1.1.1.1
  have B := Z.1.2
  delta F_X9_split F_X9_split_b0
  rw [t_pI k1, Option.bind_some]
  obtain ⟨M1, e1⟩ : ∃ M1, M1 = mI M 131 4 (0 : Int32) := ⟨_, rfl⟩
  rw [← e1]
  have k2 : g_k M1 131 = (9, 0) := by rw [e1]; exact k1
  rw [t_pI k2, Option.bind_some]
  obtain ⟨M2, e2⟩ : ∃ M2, M2 = mI M1 131 5 (0 : Int32) := ⟨_, rfl⟩
  rw [← e2]
  have k3 : g_k M2 131 = (9, 0) := by rw [e2]; exact k2
  rw [t_pI k3, Option.bind_some]
  obtain ⟨M3, e3⟩ : ∃ M3, M3 = mI M2 131 7 (0 : Int32) := ⟨_, rfl⟩
  rw [← e3]
  have f : z_Fr M M3 := by
    rw [e3]
    refine z_tr ?_ (z_up (by unfold z_W; omega))
    rw [e2]
    refine z_tr ?_ (z_up (by unfold z_W; omega))
    rw [e1]
    exact z_up (by unfold z_W; omega)
  have a4 : M3.2.1 131 4 = 0 := by rw [e3, mI_ne (Or.inr (by decide)), e2, mI_ne (Or.inr (by decide)), e1]; exact y_mI1
  have a5 : M3.2.1 131 5 = 0 := by rw [e3, mI_ne (Or.inr (by decide)), e2]; exact y_mI1
  have a7 : M3.2.1 131 7 = 0 := by rw [e3]; exact y_mI1
  refine Ok_w (C_split_L19 _ 0 0 0 (z_Tm Z f) ⟨by rw [a4]; rfl, fun i hi => absurd hi (Nat.not_lt_zero _)⟩ rfl (Nat.zero_le _) rfl (Nat.le_refl _) (Nat.le_refl _) rfl (fun i hi => absurd hi (Nat.not_lt_zero _)) (n_fu (by have := B.2; omega))) (fun M' z => ?_)
  exact ⟨z_tr f z.1, z.2.1, z.2.2.1.trans a5, z.2.2.2.trans a7⟩
