/-- cells of a new HEIR: what they know of THINGS, from the k-th on -/
def hs_nf (σ : Nat → Int32) (h k : Nat) : Nat → Int32 := fun j => if 59 + 14 * h + 2 * k ≤ j ∧ j < 73 + 14 * h then (if (j - (59 + 14 * h)) % 2 = 0 then -1 else 0) else σ j
theorem E_isHeirHere_L77 {T M0 : gM} {n : Nat} (hn : n ≤ 6) {l2 : Int32} (h2 : l2.toInt = (n : Int)) : ∀ (m k : Nat) {l3 : Int32} {M : gM} {x : hS}, he_R T M x → y_Fr he_A M0 M → (x.2 2).toInt = (n : Int) → l3.toInt = (k : Int) → k ≤ 7 → 7 - k < m → Ok (F_X12_isHeirHere_L77 m (some 175) l2 l3 M) (he_Q T (.inr (x.1, hs_set (hs_nf x.2 n k) 2 (x.2 2 + 1))) M0) := by
  intro m
  induction m with
  | zero => intro k l3 M x R F h h3 h4 h5; omega
  | succ m ih =>
    intro k l3 M x R F h h3 h4 h5
    show Ok (F_X12_isHeirHere_b77 (F_X12_isHeirHere_L77 m) (some 175) l2 l3 M) _
    have z7 : (7 : Int32).toInt = 7 := rfl
    delta F_X12_isHeirHere_b77
    refine Ok_i (fun c => ?_) (fun c => ?_)
    · have c' := i_le c
      refine e_r7 R (e_rd R (k := 2) rfl (by decide) ?_)
      have a6 := i_addc (x := x.2 2) (c := (1 : Int32)) (n := 1) rfl (by omega) (by omega)
      refine e_st R F (k := 2) rfl (by decide) (h_in (lo := 0) (hi := 7) rfl (by omega)) (fun M3 F3 R3 _ => ?_)
      have e : hs_nf x.2 n k = x.2 := by
        funext j
        unfold hs_nf
        rw [if_neg (by omega)]
      rw [e]
      exact he_q1 F3 R3
    · have c' := i_nle c
      have a1 := i_mulL (c := (14 : Int32)) (x := l2) (n := 14) rfl (by omega) (by omega)
      have a2 := i_cadd (c := (59 : Int32)) (x := (14 : Int32) * l2) (n := 59) rfl (by omega) (by omega)
      have a3 := i_mulL (c := (2 : Int32)) (x := l3) (n := 2) rfl (by omega) (by omega)
      have a4 := i_add (x := (59 : Int32) + (14 : Int32) * l2) (y := (2 : Int32) * l3) (by omega) (by omega)
      have a5 := i_addc (x := ((59 : Int32) + (14 : Int32) * l2) + (2 : Int32) * l3) (c := (1 : Int32)) (n := 1) rfl (by omega) (by omega)
      refine e_r7 R ?_
      refine e_st R F (k := 59 + 14 * n + 2 * k) (by omega) (by omega) (h_tSf (h_tSn (by omega) (by omega) (by omega))) (fun M5 F5 R5 _ => ?_)
      refine e_r7 R5 ?_
      refine e_st R5 F5 (k := 59 + 14 * n + 2 * k + 1) (by omega) (by omega) (h_tSf (h_tSn (by omega) (by omega) (by omega))) (fun M7 F7 R7 _ => ?_)
      have e2 : hs_set (hs_set x.2 (59 + 14 * n + 2 * k) (-1)) (59 + 14 * n + 2 * k + 1) 0 2 = x.2 2 := by rw [hs_sn (by omega), hs_sn (by omega)]
      have := ih (k + 1) (l3 := l3 + 1) R7 F7 (by dsimp only; rw [e2]; exact h) (by rw [n_inc h3 (by omega), i_ofNat (by omega)]) (by omega) (by omega)
      dsimp only at this
      rw [e2] at this
      have e : hs_nf (hs_set (hs_set x.2 (59 + 14 * n + 2 * k) (-1)) (59 + 14 * n + 2 * k + 1) 0) n (k + 1) = hs_nf x.2 n k := by
        funext j
        unfold hs_nf
        by_cases c1 : 59 + 14 * n + 2 * (k + 1) ≤ j ∧ j < 73 + 14 * n
        · rw [if_pos c1, if_pos (show 59 + 14 * n + 2 * k ≤ j ∧ j < 73 + 14 * n by omega)]
        · rw [if_neg c1]
          by_cases c2 : j = 59 + 14 * n + 2 * k
          · subst c2
            rw [hs_sn (by omega), hs_se, if_pos (by omega), if_pos (by omega)]
          · by_cases c3 : j = 59 + 14 * n + 2 * k + 1
            · subst c3
              rw [hs_se, if_pos (by omega), if_neg (by omega)]
            · rw [hs_sn c3, hs_sn c2, if_neg (by omega)]
      rw [e] at this
      exact this
theorem hs_nf0 {σ : Nat → Int32} {h : Nat} : hs_nf σ h 0 = hs_new σ h := rfl
theorem E_isHeirHere {T M : gM} {x : hS} {l1 : Int32} (S : he_S T M x) (hk : k_kind T x.1 = 261) (hl : l1.toInt = (x.1 : Int)) : Ok (F_X12_isHeirHere (some 175) l1 M) (he_Q T (if x.2 2 = 7 then .inl (1 + 8 * x.1 + 4) else hs_heir T (k_go T x.1, x.2)) M) := by
  obtain ⟨e1, e2, e3⟩ := he_x S.1
  have rg := S.1.1.1.2.1 181 (by decide) 2
  have rg1 : 0 ≤ (M.2.1 181 2).toInt := rg.1
  have rg2 : (M.2.1 181 2).toInt ≤ 7 := rg.2
  rw [S.1.2.2.2] at rg1 rg2
  delta F_X12_isHeirHere F_X12_isHeirHere_b0 F_X12_isHeirHere_b63
  refine e_r7 S.1 (e_rd S.1 (k := 2) rfl (by decide) ?_)
  by_cases c : x.2 2 = 7
  · rw [if_pos c, if_pos c]
    refine e_o S.1 ?_
    exact e_fails S.1.1.1 (y_rf0 _ _) S.1.2.2.1.2 hl (by omega) rfl (by decide)
  rw [if_neg c, if_neg c]
  have c' : (x.2 2).toInt ≠ 7 := fun h => c (Int32.toInt_inj.mp (by rw [h]; rfl))
  obtain ⟨n, en⟩ : ∃ n : Nat, (x.2 2).toInt = (n : Int) := ⟨(x.2 2).toInt.toNat, by omega⟩
  have hmm : hs_m x.2 = n := i_cl en
  have a1 := i_mulL (c := (2 : Int32)) (x := x.2 2) (n := 2) rfl (by omega) (by omega)
  have a2 := i_cadd (c := (38 : Int32)) (x := (2 : Int32) * x.2 2) (n := 38) rfl (by omega) (by omega)
  have a3 := i_addc (x := (38 : Int32) + (2 : Int32) * x.2 2) (c := (1 : Int32)) (n := 1) rfl (by omega) (by omega)
  have a4 := i_cadd (c := (52 : Int32)) (x := x.2 2) (n := 52) rfl (by omega) (by omega)
  refine e_o S.1 (e_pass S (k_word_L (by omega)) (y_rf0 _ _) (fun M4 F4 R4 => ?_))
  refine e_r7 R4 (e_rd R4 (k := 2) rfl (by decide) (e_cx R4 ?_))
  dsimp only
  unfold hs_heir
  dsimp only
  rw [hmm]
  refine e_cell R4 F4 (k := 38 + 2 * n) (l := 0) (h := 99) (by omega) (by omega) rfl rfl (fun v b1 b2 => h_in (h_tS38 (l := n) (by omega) rfl) (by omega)) (fun er M7 hit F7 Y => ?_) (fun y3 M9 hit F9 R9 r3 => ?_)
  · dsimp only at hit ⊢
    rw [hit, hs_bl, if_pos rfl]
    exact he_q0 F7 Y
  dsimp only at hit ⊢
  rw [hit, hs_br, if_neg (by decide)]
  refine e_cx R9 ?_
  refine e_cell R9 F9 (k := 39 + 2 * n) (l := 0) (h := 100) (by omega) (by omega) rfl rfl (fun v _ _ => h_tSf (h_tSn (by omega) (by omega) (by omega))) (fun er M7 hit F7 Y => ?_) (fun y7 M12 hit F12 R12 r7 => ?_)
  · dsimp only at hit ⊢
    rw [hit, hs_bl, if_pos rfl]
    exact he_q0 F7 Y
  dsimp only at hit ⊢
  rw [hit, hs_br, if_neg (by decide)]
  refine e_r7 R12 ?_
  refine e_st R12 F12 (k := 52 + n) (by omega) (by omega) (h_tSf (h_tSn (by omega) (by omega) (by omega))) (fun M14 F14 R14 _ => ?_)
  have e2 : hs_set (hs_set (hs_set x.2 (38 + 2 * n) y3.2) (39 + 2 * n) y7.2) (52 + n) 0 2 = x.2 2 := by rw [hs_sn (by omega), hs_sn (by omega), hs_sn (by omega)]
  have := E_isHeirHere_L77 (T := T) (M0 := M) (n := n) (by omega) en g_fuel 0 (l3 := 0) R14 F14 (by dsimp only; rw [e2]; exact en) rfl (by decide) (by decide)
  dsimp only at this
  rw [e2, hs_nf0] at this
  exact this
theorem E_isSongHere {T M : gM} {x : hS} (S : he_S T M x) (hk : k_kind T x.1 = 268) : Ok (F_X12_isSongHere (some 175) M) (he_Q T (hs_song T (k_go T x.1, x.2)) M) := by
  have rg := S.1.1.1.2.1 181 (by decide) 1
  have rg1 : 0 ≤ (M.2.1 181 1).toInt := rg.1
  have rg2 : (M.2.1 181 1).toInt ≤ 7 := rg.2
  rw [S.1.2.2.2] at rg1 rg2
  delta F_X12_isSongHere F_X12_isSongHere_b0
  refine e_o S.1 (e_pass S (k_word_L (by omega)) (y_rf0 _ _) (fun M4 F4 R4 => ?_))
  refine e_r7 R4 (e_rd R4 (k := 1) rfl (by decide) (e_cx R4 ?_))
  dsimp only
  unfold hs_song
  have hh : (x.2 1 - (1 : Int32)).toInt = (x.2 1).toInt - 1 := i_subc rfl (by omega) (by omega)
  refine e_num R4 F4 (l := 0) rfl hh (fun er M7 hit F7 Y => ?_) (fun y M7 hit F7 R7 v r => ?_)
  · dsimp only at hit ⊢
    rw [hit, hs_bl, if_pos rfl]
    exact he_q0 F7 Y
  dsimp only at hit ⊢
  rw [hit, hs_br, if_neg (by decide)]
  refine e_r7 R7 (e_rd R7 (k := 7) rfl (by decide) (e_i R7 v ?_))
  refine e_st R7 F7 (k := 7) rfl (by decide) (h_tSf rfl) (fun M11 F11 R11 _ => ?_)
  exact he_q1 F11 R11
theorem E_isHateHere {T M : gM} {x : hS} (S : he_S T M x) (hk : k_kind T x.1 = 267) : Ok (F_X12_isHateHere (some 175) M) (he_Q T (hs_hate T (k_go T x.1, x.2)) M) := by
  have rg := S.1.1.1.2.1 181 (by decide) 2
  have rg1 : 0 ≤ (M.2.1 181 2).toInt := rg.1
  have rg2 : (M.2.1 181 2).toInt ≤ 7 := rg.2
  rw [S.1.2.2.2] at rg1 rg2
  delta F_X12_isHateHere F_X12_isHateHere_b0
  refine e_o S.1 (e_pass S (k_word_L (by omega)) (y_rf0 _ _) (fun M4 F4 R4 => ?_))
  refine e_r7 R4 (e_rd R4 (k := 2) rfl (by decide) (e_cx R4 ?_))
  dsimp only
  unfold hs_hate
  have hh : (x.2 2 - (1 : Int32)).toInt = (x.2 2).toInt - 1 := i_subc rfl (by omega) (by omega)
  refine e_num R4 F4 (l := 0) rfl hh (fun er M7 hit F7 Y => ?_) (fun y M7 hit F7 R7 v r => ?_)
  · dsimp only at hit ⊢
    rw [hit, hs_bl, if_pos rfl]
    exact he_q0 F7 Y
  dsimp only at hit ⊢
  rw [hit, hs_br, if_neg (by decide)]
  refine e_r7 R7 (e_rd R7 (k := 6) rfl (by decide) (e_i R7 v ?_))
  refine e_st R7 F7 (k := 6) rfl (by decide) (h_tSf rfl) (fun M11 F11 R11 _ => ?_)
  exact he_q1 F11 R11
theorem R_isOf {M : gM} {a b : Int32} : F_X12_isOf a b M = some (if hs_is a b = 1 then 1 else 0) := by
  delta F_X12_isOf F_X12_isOf_b0
  unfold hs_is
  by_cases c : ((a >>> (b &&& 31)) &&& (1 : Int32)) = (1 : Int32)
  · rw [if_pos c, if_pos c]
  · rw [if_neg c, if_neg c]
theorem E_areCousinsHere {T M : gM} {x : hS} {l1 : Int32} (S : he_S T M x) (hk : k_kind T x.1 = 276) (hl : l1.toInt = (x.1 : Int)) (h3 : 0 ≤ (x.2 3).toInt ∧ (x.2 3).toInt ≤ 10) : Ok (F_X12_areCousinsHere (some 175) l1 M) (he_Q T (if x.2 3 = 10 then .inl (1 + 8 * x.1 + 4) else hs_cous T (k_go T x.1, x.2)) M) := by
  obtain ⟨e1, e2, e3⟩ := he_x S.1
  have rg := S.1.1.1.2.1 181 (by decide) 2
  have rg1 : 0 ≤ (M.2.1 181 2).toInt := rg.1
  have rg2 : (M.2.1 181 2).toInt ≤ 7 := rg.2
  rw [S.1.2.2.2] at rg1 rg2
  delta F_X12_areCousinsHere F_X12_areCousinsHere_b0 F_X12_areCousinsHere_b100
  refine e_r7 S.1 (e_rd S.1 (k := 3) rfl (by decide) ?_)
  by_cases c : x.2 3 = 10
  · rw [if_pos c, if_pos c]
    refine e_o S.1 ?_
    exact e_fails S.1.1.1 (y_rf0 _ _) S.1.2.2.1.2 hl (by omega) rfl (by decide)
  rw [if_neg c, if_neg c]
  refine e_o S.1 (e_pass S (k_word_L (by omega)) (y_rf0 _ _) (fun M4 F4 R4 => ?_))
  refine e_r7 R4 (e_rd R4 (k := 2) rfl (by decide) (e_cx R4 ?_))
  dsimp only
  unfold hs_cous
  have hh : (x.2 2 - (1 : Int32)).toInt = (x.2 2).toInt - 1 := i_subc rfl (by omega) (by omega)
  refine e_num R4 F4 (l := 0) rfl hh (fun er M7 hit F7 Y => ?_) (fun y5 M9 hit F9 R9 v9 r9 => ?_)
  · dsimp only at hit ⊢
    rw [hit, hs_bl, if_pos rfl]
    exact he_q0 F7 Y
  dsimp only at hit ⊢
  rw [hit, hs_br, if_neg (by decide)]
  refine e_i R9 v9 (e_cx R9 ?_)
  refine e_see R9 F9 (fun M13 F13 S13 => ?_)
  dsimp only
  have R13 := S13.1
  have p13 := he_x R13
  have v14 : M13.2.1 175 8 = Int32.ofNat y5.1 := by
    have h := n_x1 R13.1.1
    rw [S13.2] at h
    exact i_of h.1 (by omega)
  refine e_i R13 v14 (e_r7 R13 (e_rd R13 (k := 2) rfl (by decide) (e_cx R13 ?_)))
  refine e_num R13 F13 (l := 0) rfl hh (fun er M7 hit F7 Y => ?_) (fun y14 M19 hit F19 R19 v19 r19 => ?_)
  · dsimp only at hit ⊢
    rw [hit, hs_bl, if_pos rfl]
    exact he_q0 F7 Y
  dsimp only at hit ⊢
  rw [hit, hs_br, if_neg (by decide)]
  dsimp only at p13
  obtain ⟨a, ea⟩ : ∃ a : Nat, y5.2.toInt = (a : Int) := ⟨y5.2.toInt.toNat, by omega⟩
  obtain ⟨b, eb⟩ : ∃ b : Nat, y14.2.toInt = (b : Int) := ⟨y14.2.toInt.toNat, by omega⟩
  rw [i_cl ea, i_cl eb]
  have xi : (Int32.ofNat y5.1).toInt = (y5.1 : Int) := i_ofNat (by omega)
  have bad : Ok ((gO 12 M19 (some 175)).bind fun i1 => (F_X12_fails (some i1) (1 : Int32) (Int32.ofNat y5.1) M19).bind fun (v2, M3) => if v2 = 0 ∨ v2 = 1 then some (v2, M3) else none) (he_Q T (.inl (1 + 8 * y5.1 + 1)) M) := e_o R19 (e_fails R19.1.1 F19 R19.2.2.1.2 xi (by omega) rfl (by decide))
  refine e_i R19 v19 ?_
  by_cases cab : y14.2 = y5.2
  · rw [if_pos (show y5.2 = y14.2 ∨ hs_is (x.2 (52 + a)) y14.2 = 1 from Or.inl cab.symm)]
    exact Ok_t cab bad
  refine Ok_e cab ?_
  have nab : a ≠ b := fun h => cab (Int32.toInt_inj.mp (by omega))
  have a4 := i_cadd (c := (52 : Int32)) (x := y5.2) (n := 52) rfl (by omega) (by omega)
  have a5 := i_cadd (c := (52 : Int32)) (x := y14.2) (n := 52) rfl (by omega) (by omega)
  refine e_r7 R19 (e_rd R19 (k := 52 + a) (by omega) (by omega) (e_i R19 v19 ?_))
  dsimp only
  rw [R_isOf, Option.bind_some]
  by_cases cis : hs_is (x.2 (52 + a)) y14.2 = 1
  · rw [if_pos cis, if_pos (show y5.2 = y14.2 ∨ hs_is (x.2 (52 + a)) y14.2 = 1 from Or.inr cis)]
    exact Ok_e (by decide) bad
  rw [if_neg cis, if_neg (show ¬ (y5.2 = y14.2 ∨ hs_is (x.2 (52 + a)) y14.2 = 1) from fun h => h.elim (fun e => cab e.symm) cis)]
  refine Ok_t rfl ?_
  refine e_r7 R19 (e_rd R19 (k := 52 + a) (by omega) (by omega) (e_i R19 v19 ?_))
  refine e_st R19 F19 (k := 52 + a) (by omega) (by omega) (h_tSf (h_tSn (by omega) (by omega) (by omega))) (fun M28 F28 R28 t28 => ?_)
  dsimp only at R28 ⊢
  refine e_r7 R28 (e_i R28 (t28.trans v19) (e_rd R28 (k := 52 + b) (by omega) (by omega) ?_))
  dsimp only
  rw [hs_sn (show 52 + b ≠ 52 + a by omega)]
  refine e_st R28 F28 (k := 52 + b) (by omega) (by omega) (h_tSf (h_tSn (by omega) (by omega) (by omega))) (fun M32 F32 R32 t32 => ?_)
  refine e_r7 R32 (e_rd R32 (k := 3) rfl (by decide) ?_)
  dsimp only at R32 ⊢
  rw [hs_sn (show (3 : Nat) ≠ 52 + b by omega), hs_sn (show (3 : Nat) ≠ 52 + a by omega)]
  refine e_st R32 F32 (k := 3) rfl (by decide) (h_tSf rfl) (fun M35 F35 R35 _ => ?_)
  exact he_q1 F35 R35
theorem E_isKnownHere {T M : gM} {x : hS} (S : he_S T M x) (hk : k_kind T x.1 = 277) : Ok (F_X12_isKnownHere (some 175) M) (he_Q T (hs_know T (k_go T x.1, x.2)) M) := by
  have rg := S.1.1.1.2.1 181 (by decide) 2
  have rg1 : 0 ≤ (M.2.1 181 2).toInt := rg.1
  have rg2 : (M.2.1 181 2).toInt ≤ 7 := rg.2
  have sg := S.1.1.1.2.1 181 (by decide) 1
  have sg1 : 0 ≤ (M.2.1 181 1).toInt := sg.1
  have sg2 : (M.2.1 181 1).toInt ≤ 7 := sg.2
  rw [S.1.2.2.2] at rg1 rg2 sg1 sg2
  delta F_X12_isKnownHere F_X12_isKnownHere_b0 F_X12_isKnownHere_b88
  refine e_o S.1 (e_pass S (k_word_L (by omega)) (y_rf0 _ _) (fun M4 F4 R4 => ?_))
  refine e_r7 R4 (e_rd R4 (k := 2) rfl (by decide) (e_cx R4 ?_))
  dsimp only
  unfold hs_know
  have hh1 : (x.2 1 - (1 : Int32)).toInt = (x.2 1).toInt - 1 := i_subc rfl (by omega) (by omega)
  have hh2 : (x.2 2 - (1 : Int32)).toInt = (x.2 2).toInt - 1 := i_subc rfl (by omega) (by omega)
  refine e_num R4 F4 (l := 0) rfl hh2 (fun er M7 hit F7 Y => ?_) (fun y8 M7 hit F7 R7 v8 r8 => ?_)
  · dsimp only at hit ⊢
    rw [hit, hs_bl, if_pos rfl]
    exact he_q0 F7 Y
  dsimp only at hit ⊢
  rw [hit, hs_br, if_neg (by decide)]
  refine e_i R7 v8 (e_r7 R7 (e_rd R7 (k := 1) rfl (by decide) (e_cx R7 ?_)))
  refine e_num R7 F7 (l := 0) rfl hh1 (fun er M7 hit F7 Y => ?_) (fun y14 M13 hit F13 R13 v14 r14 => ?_)
  · dsimp only at hit ⊢
    rw [hit, hs_bl, if_pos rfl]
    exact he_q0 F7 Y
  dsimp only at hit ⊢
  rw [hit, hs_br, if_neg (by decide)]
  refine e_i R13 v14 (e_cx R13 ?_)
  obtain ⟨h, eh⟩ : ∃ h : Nat, y8.2.toInt = (h : Int) := ⟨y8.2.toInt.toNat, by omega⟩
  obtain ⟨t, et⟩ : ∃ t : Nat, y14.2.toInt = (t : Int) := ⟨y14.2.toInt.toNat, by omega⟩
  rw [i_cl eh, i_cl et]
  have a1 := i_mulL (c := (14 : Int32)) (x := y8.2) (n := 14) rfl (by omega) (by omega)
  have a2 := i_cadd (c := (59 : Int32)) (x := (14 : Int32) * y8.2) (n := 59) rfl (by omega) (by omega)
  have a3 := i_mulL (c := (2 : Int32)) (x := y14.2) (n := 2) rfl (by omega) (by omega)
  have a4 := i_add (x := (59 : Int32) + (14 : Int32) * y8.2) (y := (2 : Int32) * y14.2) (by omega) (by omega)
  have a5 := i_addc (x := ((59 : Int32) + (14 : Int32) * y8.2) + (2 : Int32) * y14.2) (c := (1 : Int32)) (n := 1) rfl (by omega) (by omega)
  refine e_cell R13 F13 (k := 59 + 14 * h + 2 * t) (l := 0) (h := 9) (by omega) (by omega) rfl rfl (fun v _ _ => h_tSf (h_tSn (by omega) (by omega) (by omega))) (fun er M7 hit F7 Y => ?_) (fun y16 M17 hit F17 R17 r17 => ?_)
  · dsimp only at hit ⊢
    rw [hit, hs_bl, if_pos rfl]
    exact he_q0 F7 Y
  dsimp only at hit ⊢
  rw [hit, hs_br, if_neg (by decide)]
  refine e_cx R17 ?_
  refine e_cell R17 F17 (k := 60 + 14 * h + 2 * t) (l := 1) (h := 99) (by omega) (by omega) rfl rfl (fun v _ _ => h_tSf (h_tSn (by omega) (by omega) (by omega))) (fun er M7 hit F7 Y => ?_) (fun y19 M20 hit F20 R20 r20 => ?_)
  · dsimp only at hit ⊢
    rw [hit, hs_bl, if_pos rfl]
    exact he_q0 F7 Y
  dsimp only at hit ⊢
  rw [hit, hs_br, if_neg (by decide)]
  exact he_q1 F20 R20
