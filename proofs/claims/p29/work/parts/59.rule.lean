/-! clauses, the whole text, rule and house -/
theorem n_c9 {M : gM} {p : Nat} : n_cc (n_at M p) = n_cc M := by
  funext t
  unfold n_cc
  rw [n_ata (by decide)]
theorem p_K_of {S t c : Nat} {M M' : gM} (K : p_K t c M) (H : y_HT M') (f : y_Fr S M M') (h1 : Nat.land S (2 ^ 1 + 2 ^ 11 + 2 ^ 42 + 2 ^ 43 + 2 ^ 44 + 2 ^ 45) = 0) (hx : n_l M t ≤ n_x M' ∧ n_x M' ≤ n_s M) : p_K t c M' := by
  obtain ⟨⟨⟨_, ht⟩, e11⟩, _, hcc, C⟩ := K
  have l9 := n_fl (t := t) f (y_dis h1 (by decide))
  refine ⟨⟨⟨H, ht⟩, by rw [y_fk (i := 175) (k := 11) f (y_dis h1 (by decide))]; exact e11⟩, ⟨by rw [l9]; exact hx.1, by rw [n_fs f (y_dis h1 (by decide))]; exact hx.2⟩, ?_, fun k hk => ?_⟩
  · unfold n_cc
    rw [y_fa (i := 180) f (by decide) (y_dis h1 (by decide)) t]
    exact hcc
  · exact p_cl_mo (C k hk) (by omega) (fun j _ => y_fa (i := 177) f (by decide) (y_dis h1 (by decide)) j) (fun j _ => y_fa (i := 179) f (by decide) (y_dis h1 (by decide)) _)
/-- clauses of the rule t, and as many lines -/
def p_N (t c : Nat) (M : gM) : Prop := p_K t c M ∧ (M.2.1 175 14).toInt = (c : Int) ∧ c ≤ 12
def p_M (t : Nat) (M : gM) : Int32 × gM → Prop := fun r => (y_HT r.2 ∧ p_G p_A t M r.2) ∧ ((r.1 = 0 ∧ r.2.2.1 175 9 ≠ 0) ∨ (r.1 = 1 ∧ (∃ c, p_N t c r.2) ∧ n_x M ≤ n_x r.2))
theorem P_clauseHere {t c : Nat} {M : gM} (N : p_N t c M) : Ok (F_X12_clauseHere (some 175) M) (p_M t M) := by
  obtain ⟨K, hl, hc⟩ := N
  have H := K.1.1.1
  have ht := K.1.1.2
  have hx := K.2.1
  have s1 := n_s1 H
  have k1 := n_sk_le hx.2
  obtain ⟨p, hp⟩ : ∃ p, p = n_sk M (n_x M) := ⟨_, rfl⟩
  rw [← hp] at k1
  obtain ⟨H3, f3⟩ := n_at_set (p := p) H (by omega)
  have x3 : n_x (n_at M p) = p := n_at_x (by omega)
  have s3 : n_s (n_at M p) = n_s M := n_at_s
  have K3 : p_K t c (n_at M p) := p_K_of K H3 f3 (by decide) (by omega)
  have G3 : p_G p_A t M (n_at M p) := p_G_of f3 (by decide) (by decide)
  have v4 : (n_at M p).2.1 175 8 = Int32.ofNat p := n_at8
  have xi : (Int32.ofNat p).toInt = (p : Int) := i_ofNat (by omega)
  have v14 : (n_at M p).2.1 175 14 = M.2.1 175 14 := n_atk (by decide)
  have e11 := K3.1.2
  delta F_X12_clauseHere F_X12_clauseHere_b0
  rw [e_gO H, Option.bind_some, R_see H hx.2, ← hp, Option.bind_some]
  dsimp only
  rw [e_gI H3, Option.bind_some, e_gI H3, Option.bind_some, v4]
  have z6 : (6 : Int32).toInt = 6 := rfl
  refine Ok_e (fun e => by have := i_eq e; omega) ?_
  delta F_X12_clauseHere_b24
  rw [if_pos rfl, e_gO H3, Option.bind_some, R_isW2 H hx.2 hp, Option.bind_some]
  dsimp only
  generalize n_at M p = M3 at H3 x3 s3 K3 G3 v14 e11 ⊢
  have bad : ∀ {k : Int32}, (0 ≤ k.toInt ∧ k.toInt ≤ 4) → Ok ((F_X12_fails (some 175) k (Int32.ofNat p) M3).bind fun (v2, M4) => if v2 = 0 ∨ v2 = 1 then some (v2, M4) else none) (p_M t M) := by
    intro k hk
    rw [R_fails H3, Option.bind_some]
    dsimp only
    rw [if_pos (Or.inl rfl)]
    obtain ⟨H9, f9⟩ := n_f_set (k := k) (p := Int32.ofNat p) H3
    exact Ok_s ⟨⟨H9, p_G_tr G3 (p_G_of f9 (by decide) (by decide))⟩, Or.inl ⟨rfl, n_f9 xi (by omega) hk⟩⟩
  refine Ok_i (fun _ => ?_) (fun _ => ?_)
  · delta F_X12_clauseHere_b49
    rw [e_gO H3, Option.bind_some]
    exact bad (by decide)
  · delta F_X12_clauseHere_b56 F_X12_clauseHere_b71
    rw [e_gI H3, Option.bind_some, if_pos rfl]
    have z12 : (12 : Int32).toInt = 12 := rfl
    refine Ok_i (fun _ => ?_) (fun e => ?_)
    · rw [e_gO H3, Option.bind_some]
      exact bad (by decide)
    · have e' := i_ne e
      have hl3 : (M3.2.1 175 14).toInt = (c : Int) := by rw [v14]; exact hl
      rw [Option.bind_some, e_pI H3, Option.bind_some, n_inc hl3 (by omega)]
      obtain ⟨H2, f2⟩ := y_set (M' := mI M3 175 14 (Int32.ofNat (c + 1))) (S := 2 ^ 14) H3 (i := 175) (k := 14) (by decide) rfl rfl y_mI1 (fun j a hj => y_mI2 hj) rfl (y_full rfl) (by decide)
      have w14 : (mI M3 175 14 (Int32.ofNat (c + 1))).2.1 175 14 = Int32.ofNat (c + 1) := y_mI1
      generalize mI M3 175 14 (Int32.ofNat (c + 1)) = M2 at H2 f2 w14 ⊢
      have x2 := n_fx f2 (by decide)
      have K2 : p_K t c M2 := p_K_of K3 H2 f2 (by decide) (by rw [x2]; exact K3.2.1)
      rw [if_pos rfl, e_gO H2, Option.bind_some]
      refine Ok_b (P_isFadeHere K2 (by omega)) (fun y z => ?_)
      obtain ⟨v, M5⟩ := y
      have hG : p_G p_A t M M5 := p_G_tr G3 (p_G_tr (p_G_of f2 (by decide) (by decide)) z.1.2)
      refine Ok_t ?_ (Ok_s ⟨⟨z.1.1, hG⟩, ?_⟩)
      · rcases z.2 with z | z
        · exact Or.inl z.1
        · exact Or.inr z.1
      · rcases z.2 with z2 | z2
        · exact Or.inl z2
        · refine Or.inr ⟨z2.1, ⟨c + 1, z2.2.1, ?_, by omega⟩, by have := z2.2.2; dsimp only at this ⊢; omega⟩
          sorry
