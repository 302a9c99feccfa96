/-! the reference reads a HOUSE -/
abbrev he_A : Nat := 2 ^ 8 + 2 ^ 9 + 2 ^ 10 + 2 ^ 46
/-- no FAULT yet; the reading stands at x; 'read' holds x's cells -/
def he_R (T M : gM) (x : hS) : Prop := (y_HT M ∧ n_x M ≤ n_s M) ∧ (n_b M = n_b T ∧ n_s M = n_s T) ∧ (n_sk T (n_x M) = x.1 ∧ M.2.1 175 9 = 0) ∧ M.2.1 181 = x.2
/-- and just ahead of it -/
def he_S (T M : gM) (x : hS) : Prop := he_R T M x ∧ n_x M = x.1
def he_Y (M : gM) (er : Nat) : Prop := y_HT M ∧ (M.2.1 175 9).toInt = (er : Int) ∧ M.2.1 175 9 ≠ 0
def he_P (T : gM) (r : hs_R) (y : Int32 × gM) : Prop := match r with
  | .inl er => y.1 = 0 ∧ he_Y y.2 er
  | .inr x => y.1 = 1 ∧ he_R T y.2 x
def he_Q (T : gM) (r : hs_R) (M : gM) : Int32 × gM → Prop := fun y => y_Fr he_A M y.2 ∧ he_P T r y
theorem he_R_fr {S : Nat} {T M M' : gM} {x : hS} (R : he_R T M x) (H : y_HT M') (f : y_Fr S M M') (h : Nat.land S (2 ^ 1 + 2 ^ 8 + 2 ^ 9 + 2 ^ 41 + 2 ^ 46) = 0) : he_R T M' x := by
  have e8 := n_fx f (y_dis h (by decide))
  have e1 := n_fs f (y_dis h (by decide))
  refine ⟨⟨H, by rw [e8, e1]; exact R.1.2⟩, ⟨(funext (fun q => y_fa (i := 176) f (by decide) (y_dis h (by decide)) q)).trans R.2.1.1, e1.trans R.2.1.2⟩, ⟨by rw [e8]; exact R.2.2.1.1, by rw [y_fk (i := 175) (k := 9) f (y_dis h (by decide))]; exact R.2.2.1.2⟩, ?_⟩
  rw [← R.2.2.2]
  exact funext (fun q => y_fa (i := 181) f (by decide) (y_dis h (by decide)) q)
theorem he_at {T M : gM} {x : hS} {p : Nat} (R : he_R T M x) (h : p ≤ n_s M) : y_Fr he_A M (n_at M p) ∧ he_R T (n_at M p) (n_sk T p, x.2) := by
  have s1 := n_s1 R.1.1
  obtain ⟨H, f⟩ := n_at_set (p := p) R.1.1 (by omega)
  exact ⟨y_fl (by decide) f, ⟨H, by rw [n_at_x (by omega), n_at_s]; exact h⟩, ⟨n_at_b.trans R.2.1.1, n_at_s.trans R.2.1.2⟩, ⟨by rw [n_at_x (by omega)], (n_atk (by decide)).trans R.2.2.1.2⟩, (n_ata (by decide)).trans R.2.2.2⟩
theorem he_x {T M : gM} {x : hS} (R : he_R T M x) : n_sk M (n_x M) = x.1 ∧ x.1 ≤ n_s M ∧ n_s M ≤ 400 := by
  have e := (n_T R.2.1.1 R.2.1.2).1.2.1.1
  have k1 := n_sk_le R.1.2
  have s1 := n_s1 R.1.1
  have e1 : n_sk M (n_x M) = x.1 := by rw [e]; exact R.2.2.1.1
  exact ⟨e1, by omega, by omega⟩
theorem he_sk {T M : gM} {x : hS} (R : he_R T M x) : n_sk T x.1 = x.1 := by rw [← R.2.2.1.1, n_sk_sk]
theorem e_see {T M M0 : gM} {x : hS} {β : Type} {f : Int32 × gM → Option β} {Q : β → Prop} (R : he_R T M x) (F : y_Fr he_A M0 M) (g : ∀ M', y_Fr he_A M0 M' → he_S T M' x → Ok (f (n_c T x.1, M')) Q) : Ok ((F_X12_see (some 175) M).bind f) Q := by
  obtain ⟨e1, e2, e3⟩ := he_x R
  have ec := (n_T R.2.1.1 R.2.1.2).2.2.1.2
  rw [R_see R.1.1 R.1.2, Option.bind_some, e1, ec]
  obtain ⟨f1, R1⟩ := he_at R e2
  rw [he_sk R] at R1
  exact g _ (y_tr F f1) ⟨R1, n_at_x (by omega)⟩
theorem e_word {T M : gM} {x : hS} {w : Int64} {β : Type} {f : Int32 × gM → Option β} {Q : β → Prop} (S : he_S T M x) (g : Ok (f (if n_w T x.1 w = true then 1 else 0, M)) Q) : Ok ((F_X12_isWord (some 175) w M).bind f) Q := by
  obtain ⟨e1, e2, e3⟩ := he_x S.1
  have ew := (n_T S.1.2.1.1 S.1.2.1.2).2.1.1
  have ea : n_at M x.1 = M := by rw [← S.2]; exact n_at_self S.1.1.1
  rw [R_isWord S.1.1.1 S.1.1.2, Option.bind_some, e1, ew, ea]
  exact g
theorem e_pass {T M M0 : gM} {x : hS} {β : Type} {f : gM → Option β} {Q : β → Prop} (S : he_S T M x) (hL : n_L T x.1 = true) (F : y_Fr he_A M0 M) (g : ∀ M', y_Fr he_A M0 M' → he_R T M' (k_go T x.1, x.2) → Ok (f M') Q) : Ok ((F_X12_passWord (some 175) M).bind f) Q := by
  obtain ⟨e1, e2, e3⟩ := he_x S.1
  have el := (n_T S.1.2.1.1 S.1.2.1.2).1.2.1.2
  have k1 := n_le_le (M := M) (p := n_x M) S.1.1.2
  rw [R_passWord S.1.1.1 S.1.1.2, Option.bind_some]
  obtain ⟨f1, R1⟩ := he_at (p := n_le M (n_x M)) S.1 k1.2
  refine g _ (y_tr F f1) ?_
  rw [k_go_L hL]
  have e : n_le T x.1 = n_le M (n_x M) := by rw [el, S.2]
  rw [e]
  exact R1
theorem he_fail {M M0 : gM} {k p : Int32} {q d : Nat} (H : y_HT M) (F : y_Fr he_A M0 M) (h : M.2.1 175 9 = 0) (hp : p.toInt = (q : Int)) (hq : q ≤ 400) (hk : k.toInt = (d : Int)) (hd : d ≤ 4) : y_Fr he_A M0 (n_f M k p) ∧ he_Y (n_f M k p) (1 + 8 * q + d) := by
  obtain ⟨H1, f1⟩ := n_f_set (k := k) (p := p) H
  exact ⟨y_tr F (y_fl (by decide) f1), H1, n_f_0 h hp hq hk (by omega), n_f9 hp hq (by omega)⟩
/-- a FAULT ends it -/
theorem e_fails {T M M0 : gM} {k p : Int32} {q d : Nat} (H : y_HT M) (F : y_Fr he_A M0 M) (h : M.2.1 175 9 = 0) (hp : p.toInt = (q : Int)) (hq : q ≤ 400) (hk : k.toInt = (d : Int)) (hd : d ≤ 4) : Ok ((F_X12_fails (some 175) k p M).bind fun (v2, M3) => if v2 = 0 ∨ v2 = 1 then some (v2, M3) else none) (he_Q T (.inl (1 + 8 * q + d)) M0) := by
  rw [R_fails H, Option.bind_some]
  dsimp only
  rw [if_pos (Or.inl rfl)]
  obtain ⟨a, b⟩ := he_fail (k := k) (p := p) H F h hp hq hk hd
  exact Ok_s ⟨a, rfl, b⟩
theorem e_num {T M M0 : gM} {x : hS} {lo hi : Int32} {l h : Int} {β : Type} {f : Int32 × gM → Option β} {Q : β → Prop} (R : he_R T M x) (F : y_Fr he_A M0 M) (hl : lo.toInt = l) (hh : hi.toInt = h)
    (bad : ∀ er M', hs_num T x.1 l h = .inl er → y_Fr he_A M0 M' → he_Y M' er → Ok (f (0, M')) Q)
    (go : ∀ y M', hs_num T x.1 l h = .inr y → y_Fr he_A M0 M' → he_R T M' (y.1, x.2) → M'.2.1 175 10 = y.2 → (l ≤ y.2.toInt ∧ y.2.toInt ≤ h) → Ok (f (1, M')) Q) : Ok ((F_X12_numberHere (some 175) lo hi M).bind f) Q := by
  subst hl
  subst hh
  obtain ⟨e1, e2, e3⟩ := he_x R
  obtain ⟨⟨⟨eL, eD⟩, _, ede⟩, ⟨_, ev⟩, ⟨eo, _⟩, _⟩ := n_T R.2.1.1 R.2.1.2
  have xi : (Int32.ofNat x.1).toInt = (x.1 : Int) := i_ofNat (by omega)
  rw [R_numberHere R.1.1 R.1.2 e1.symm, Option.bind_some]
  unfold hs_num at bad go
  by_cases cD : n_D T x.1 = true
  · rw [if_pos cD] at bad go
    rw [if_pos (show n_D M x.1 = true by rw [eD]; exact cD)]
    obtain ⟨H2, f2⟩ := n_an_set (p := x.1) R.1.1 e2
    have F2 : y_Fr he_A M (n_an M x.1) := y_fl (by decide) f2
    have d1 := n_de_le (M := M) (p := x.1) e2
    have w9 : (n_an M x.1).2.1 175 9 = 0 := by
      unfold n_an
      rw [mI_ne (Or.inr (by decide)), n_atk (by decide)]
      exact R.2.2.1.2
    by_cases cO : n_ok T x.1 lo.toInt hi.toInt = true
    · rw [if_pos cO] at bad go
      rw [if_pos (show n_ok M x.1 lo.toInt hi.toInt = true by rw [eo]; exact cO)]
      have x2 : n_x (n_an M x.1) = n_de M x.1 := by
        unfold n_x n_an
        rw [mI_ne (Or.inr (by decide)), n_at8, i_ofNat (by omega)]
        omega
      have s2 := n_fs f2 (by decide)
      refine go _ _ rfl (y_tr F F2) ⟨⟨H2, by rw [x2, s2]; exact d1.2⟩, ⟨(funext (fun q => y_fa (i := 176) f2 (by decide) (by decide) q)).trans R.2.1.1, s2.trans R.2.1.2⟩, ⟨?_, w9⟩, ?_⟩ ?_ (of_decide_eq_true cO).2
      · rw [x2, ede]
        exact (z_no_s cD).symm
      · rw [← R.2.2.2]
        exact funext (fun q => y_fa (i := 181) f2 (by decide) (by decide) q)
      · show (n_an M x.1).2.1 175 10 = n_v T x.1
        rw [← ev]
        exact y_mI1
    · rw [if_neg cO] at bad go
      rw [if_neg (show ¬ n_ok M x.1 lo.toInt hi.toInt = true by rw [eo]; exact cO)]
      obtain ⟨a, b⟩ := he_fail (k := 1) (p := Int32.ofNat x.1) (d := 1) H2 (y_tr F F2) w9 xi (by omega) rfl (by decide)
      exact bad _ _ rfl a b
  · rw [if_neg cD] at bad go
    rw [if_neg (show ¬ n_D M x.1 = true by rw [eD]; exact cD)]
    obtain ⟨f1, R1⟩ := he_at R e2
    obtain ⟨a, b⟩ := he_fail (k := 0) (p := Int32.ofNat x.1) (d := 0) R1.1.1 (y_tr F f1) R1.2.2.1.2 xi (by omega) rfl (by decide)
    exact bad _ _ rfl a b
/-- a cell set -/
theorem e_st {T M M0 : gM} {x : hS} {j v : Int32} {k : Nat} {β : Type} {f : gM → Option β} {Q : β → Prop} (R : he_R T M x) (F : y_Fr he_A M0 M) (hj : j.toInt = (k : Int)) (hk : k < 157) (hr : y_rg (y_tS k) v) (g : ∀ M', y_Fr he_A M0 M' → he_R T M' (x.1, hs_set x.2 k v) → M'.2.1 175 10 = M.2.1 175 10 → Ok (f M') Q) : Ok ((sI M (some 181) j v).bind f) Q := by
  refine y_sI (S := 2 ^ 46) R.1.1 (i := 181) (n := 157) rfl (by omega) (by omega) (by rw [i_cl hj]; exact hr) (by decide) (fun M' H' f' e' o' l' => ?_)
  rw [i_cl hj] at e' o'
  have x' := n_fx f' (by decide)
  have s' := n_fs f' (by decide)
  refine g M' (y_tr F (y_fl (by decide) f')) ⟨⟨H', by rw [x', s']; exact R.1.2⟩, ⟨(funext (fun q => o' 176 q (Or.inl (by decide)))).trans R.2.1.1, s'.trans R.2.1.2⟩, ⟨by rw [x']; exact R.2.2.1.1, (o' 175 9 (Or.inl (by decide))).trans R.2.2.1.2⟩, ?_⟩ (o' 175 10 (Or.inl (by decide)))
  funext a
  show M'.2.1 181 a = if a = k then v else x.2 a
  by_cases c : a = k
  · rw [if_pos c, c]
    exact e'
  · rw [if_neg c, o' 181 a (Or.inr c), R.2.2.2]
theorem e_rd {T M : gM} {x : hS} {j : Int32} {k : Nat} {β : Type} {f : Int32 → Option β} {Q : β → Prop} (R : he_R T M x) (hj : j.toInt = (k : Int)) (hk : k < 157) (g : Ok (f (x.2 k)) Q) : Ok ((aI 20 M (some 181) j).bind f) Q := by
  rw [e_aI R.1.1 (t := 20) (i := 181) (n := 157) rfl (by decide) (by omega) (by omega), Option.bind_some, i_cl hj, R.2.2.2]
  exact g
theorem e_r7 {T M : gM} {x : hS} {β : Type} {f : Option Nat → Option β} {Q : β → Prop} (R : he_R T M x) (g : Ok (f (some 181)) Q) : Ok ((gR 12 M (some 175) 7).bind f) Q := by
  rw [e_gR R.1.1 (w := 181) rfl (by decide), Option.bind_some]
  exact g
theorem e_o {T M : gM} {x : hS} {β : Type} {f : Nat → Option β} {Q : β → Prop} (R : he_R T M x) (g : Ok (f 175) Q) : Ok ((gO 12 M (some 175)).bind f) Q := by
  rw [e_gO R.1.1, Option.bind_some]
  exact g
theorem e_cx {T M : gM} {x : hS} {β : Type} {f : Unit → Option β} {Q : β → Prop} (R : he_R T M x) (g : Ok (f ()) Q) : Ok ((gC 12 M 175).bind f) Q := by
  rw [e_gC R.1.1, Option.bind_some]
  exact g
theorem e_i {T M : gM} {x : hS} {k : Nat} {v : Int32} {β : Type} {f : Int32 → Option β} {Q : β → Prop} (R : he_R T M x) (e : M.2.1 175 k = v) (g : Ok (f v) Q) : Ok ((gI 12 M (some 175) k).bind f) Q := by
  rw [e_gI R.1.1, Option.bind_some, e]
  exact g
/-- a number read into a cell -/
theorem e_cell {T M M0 : gM} {x : hS} {j lo hi : Int32} {l h : Int} {k : Nat} {β : Type} {f : Int32 × gM → Option β} {Q : β → Prop} (R : he_R T M x) (F : y_Fr he_A M0 M) (hj : j.toInt = (k : Int)) (hk : k < 157) (hl : lo.toInt = l) (hh : hi.toInt = h) (hr : ∀ v : Int32, l ≤ v.toInt → v.toInt ≤ h → y_rg (y_tS k) v)
    (bad : ∀ er M', hs_num T x.1 l h = .inl er → y_Fr he_A M0 M' → he_Y M' er → Ok (f (0, M')) Q)
    (go : ∀ y M', hs_num T x.1 l h = .inr y → y_Fr he_A M0 M' → he_R T M' (y.1, hs_set x.2 k y.2) → (l ≤ y.2.toInt ∧ y.2.toInt ≤ h) → Ok (f (1, M')) Q) : Ok ((F_X12_cellHere (some 175) j lo hi M).bind f) Q := by
  refine Ok_b (P := fun r => (∃ er, hs_num T x.1 l h = .inl er ∧ r.1 = 0 ∧ y_Fr he_A M0 r.2 ∧ he_Y r.2 er) ∨ (∃ y, hs_num T x.1 l h = .inr y ∧ r.1 = 1 ∧ y_Fr he_A M0 r.2 ∧ he_R T r.2 (y.1, hs_set x.2 k y.2) ∧ (l ≤ y.2.toInt ∧ y.2.toInt ≤ h))) ?_ (fun r z => ?_)
  · delta F_X12_cellHere F_X12_cellHere_b0
    refine e_o R ?_
    refine e_num R F hl hh (fun er M' hit F' Y => ?_) (fun y M' hit F' R' v r => ?_)
    · dsimp only
      rw [if_pos rfl]
      exact Ok_s (Or.inl ⟨er, hit, rfl, F', Y⟩)
    · dsimp only
      rw [if_neg (by decide)]
      refine e_r7 R' (e_i R' v ?_)
      refine e_st R' F' hj hk (hr _ r.1 r.2) (fun M2 F2 R2 _ => ?_)
      exact Ok_s (Or.inr ⟨y, hit, rfl, F2, R2, r⟩)
  · obtain ⟨a, b⟩ := r
    rcases z with ⟨er, z1, z2, z3, z4⟩ | ⟨y, z1, z2, z3, z4, z5⟩
    · dsimp only at z2
      subst z2
      exact bad er _ z1 z3 z4
    · dsimp only at z2
      subst z2
      exact go y _ z1 z3 z4 z5
theorem he_q1 {T M M0 : gM} {x : hS} (F : y_Fr he_A M0 M) (R : he_R T M x) : Ok (some ((1 : Int32), M)) (he_Q T (.inr x) M0) := Ok_s ⟨F, rfl, R⟩
theorem he_q0 {T M M0 : gM} {er : Nat} (F : y_Fr he_A M0 M) (Y : he_Y M er) : Ok (some ((0 : Int32), M)) (he_Q T (.inl er) M0) := Ok_s ⟨F, rfl, Y⟩
/-! clauses -/
theorem k_word_L {T : gM} {p : Nat} (h : 261 ≤ k_kind T p) : n_L T p = true := by
  by_cases c : n_L T p = true
  · exact c
  · have := k_nl_r c
    omega
theorem E_isHouseHere {T M : gM} {x : hS} {l1 : Int32} (S : he_S T M x) (hk : k_kind T x.1 = 275) (hl : l1.toInt = (x.1 : Int)) : Ok (F_X12_isHouseHere (some 175) l1 M) (he_Q T (if x.2 0 ≤ 0 then hs_house T (k_go T x.1, x.2) else .inl (1 + 8 * x.1 + 4)) M) := by
  obtain ⟨e1, e2, e3⟩ := he_x S.1
  delta F_X12_isHouseHere F_X12_isHouseHere_b0
  refine e_r7 S.1 (e_rd S.1 (k := 0) rfl (by decide) ?_)
  by_cases c : x.2 0 ≤ 0
  · rw [if_pos c, if_pos c]
    refine e_o S.1 (e_pass S (k_word_L (by omega)) (y_rf0 _ _) (fun M4 F4 R4 => ?_))
    refine e_cx R4 ?_
    unfold hs_house
    refine e_cell R4 F4 (k := 5) (l := 1) (h := 20) rfl (by decide) rfl rfl (fun v _ _ => h_tSf rfl) (fun er M7 hit F7 Y => ?_) (fun y M7 hit F7 R7 r => ?_)
    · dsimp only at hit ⊢
      rw [hit, hs_bl, if_pos rfl]
      exact he_q0 F7 Y
    · dsimp only at hit ⊢
      rw [hit, hs_br, if_neg (by decide)]
      refine e_r7 R7 ?_
      refine e_st R7 F7 (k := 0) rfl (by decide) (h_tSf rfl) (fun M9 F9 R9 _ => ?_)
      exact he_q1 F9 R9
  · rw [if_neg c, if_neg c]
    refine e_o S.1 ?_
    exact e_fails S.1.1.1 (y_rf0 _ _) S.1.2.2.1.2 hl (by omega) rfl (by decide)
theorem E_isThingHere {T M : gM} {x : hS} {l1 : Int32} (S : he_S T M x) (hk : k_kind T x.1 = 262) (hl : l1.toInt = (x.1 : Int)) : Ok (F_X12_isThingHere (some 175) l1 M) (he_Q T (if x.2 1 = 7 then .inl (1 + 8 * x.1 + 4) else hs_thing T (k_go T x.1, x.2)) M) := by
  obtain ⟨e1, e2, e3⟩ := he_x S.1
  have rg := S.1.1.1.2.1 181 (by decide) 1
  have rg1 : 0 ≤ (M.2.1 181 1).toInt := rg.1
  have rg2 : (M.2.1 181 1).toInt ≤ 7 := rg.2
  rw [S.1.2.2.2] at rg1 rg2
  delta F_X12_isThingHere F_X12_isThingHere_b0 F_X12_isThingHere_b71
  refine e_r7 S.1 (e_rd S.1 (k := 1) rfl (by decide) ?_)
  by_cases c : x.2 1 = 7
  · rw [if_pos c, if_pos c]
    refine e_o S.1 ?_
    exact e_fails S.1.1.1 (y_rf0 _ _) S.1.2.2.1.2 hl (by omega) rfl (by decide)
  rw [if_neg c, if_neg c]
  have c' : (x.2 1).toInt ≠ 7 := fun h => c (Int32.toInt_inj.mp (by rw [h]; rfl))
  obtain ⟨n, en⟩ : ∃ n : Nat, (x.2 1).toInt = (n : Int) := ⟨(x.2 1).toInt.toNat, by omega⟩
  have hnn : hs_n x.2 = n := i_cl en
  have a1 := i_mulL (c := (4 : Int32)) (x := x.2 1) (n := 4) rfl (by omega) (by omega)
  have a2 := i_cadd (c := (10 : Int32)) (x := (4 : Int32) * x.2 1) (n := 10) rfl (by omega) (by omega)
  have a3 := i_addc (x := (10 : Int32) + (4 : Int32) * x.2 1) (c := (1 : Int32)) (n := 1) rfl (by omega) (by omega)
  have a4 := i_addc (x := (10 : Int32) + (4 : Int32) * x.2 1) (c := (2 : Int32)) (n := 2) rfl (by omega) (by omega)
  have a5 := i_addc (x := (10 : Int32) + (4 : Int32) * x.2 1) (c := (3 : Int32)) (n := 3) rfl (by omega) (by omega)
  refine e_o S.1 (e_pass S (k_word_L (by omega)) (y_rf0 _ _) (fun M4 F4 R4 => ?_))
  refine e_r7 R4 (e_rd R4 (k := 1) rfl (by decide) (e_cx R4 ?_))
  dsimp only
  unfold hs_thing
  dsimp only
  rw [hnn]
  refine e_cell R4 F4 (k := 10 + 4 * n) (l := 0) (h := 9) (by omega) (by omega) rfl rfl (fun v _ _ => h_tSf (h_tSn (by omega) (by omega) (by omega))) (fun er M7 hit F7 Y => ?_) (fun y3 M9 hit F9 R9 r3 => ?_)
  · dsimp only at hit ⊢
    rw [hit, hs_bl, if_pos rfl]
    exact he_q0 F7 Y
  dsimp only at hit ⊢
  rw [hit, hs_br, if_neg (by decide)]
  refine e_cx R9 ?_
  refine e_cell R9 F9 (k := 11 + 4 * n) (l := 0) (h := 20) (by omega) (by omega) rfl rfl (fun v b1 b2 => h_in (h_tS11 (l := n) (by omega) rfl) (by omega)) (fun er M7 hit F7 Y => ?_) (fun y7 M12 hit F12 R12 r7 => ?_)
  · dsimp only at hit ⊢
    rw [hit, hs_bl, if_pos rfl]
    exact he_q0 F7 Y
  dsimp only at hit ⊢
  rw [hit, hs_br, if_neg (by decide)]
  refine e_cx R12 ?_
  refine e_cell R12 F12 (k := 12 + 4 * n) (l := 0) (h := 99) (by omega) (by omega) rfl rfl (fun v _ _ => h_tSf (h_tSn (by omega) (by omega) (by omega))) (fun er M7 hit F7 Y => ?_) (fun y11 M15 hit F15 R15 r11 => ?_)
  · dsimp only at hit ⊢
    rw [hit, hs_bl, if_pos rfl]
    exact he_q0 F7 Y
  dsimp only at hit ⊢
  rw [hit, hs_br, if_neg (by decide)]
  refine e_r7 R15 ?_
  refine e_st R15 F15 (k := 13 + 4 * n) (by omega) (by omega) (h_tSf (h_tSn (by omega) (by omega) (by omega))) (fun M17 F17 R17 _ => ?_)
  refine e_r7 R17 (e_rd R17 (k := 1) rfl (by decide) ?_)
  have e1 : hs_set (hs_set (hs_set (hs_set x.2 (10 + 4 * n) y3.2) (11 + 4 * n) y7.2) (12 + 4 * n) y11.2) (13 + 4 * n) (-1) 1 = x.2 1 := by rw [hs_sn (by omega), hs_sn (by omega), hs_sn (by omega), hs_sn (by omega)]
  dsimp only
  rw [e1]
  have a6 := i_addc (x := x.2 1) (c := (1 : Int32)) (n := 1) rfl (by omega) (by omega)
  refine e_st R17 F17 (k := 1) rfl (by decide) (h_in (lo := 0) (hi := 7) rfl (by omega)) (fun M20 F20 R20 _ => ?_)
  exact he_q1 F20 R20
