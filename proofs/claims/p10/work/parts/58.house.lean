/-! a HOUSE is read -/
abbrev h_A : Nat := 2 ^ 8 + 2 ^ 9 + 2 ^ 10 + 2 ^ 14 + 2 ^ 46
def h_F (M M' : gM) : Prop := y_Fr h_A M M' ∧ n_x M ≤ n_x M' ∧ n_x M' ≤ n_s M'
theorem h_tr {M M1 M2 : gM} (h1 : h_F M M1) (h2 : h_F M1 M2) : h_F M M2 := ⟨y_tr h1.1 h2.1, Nat.le_trans h1.2.1 h2.2.1, h2.2.2⟩
def h_Q (M : gM) : Int32 × gM → Prop := fun r => (y_HT r.2 ∧ y_Fr h_A M r.2) ∧ ((r.1 = 0 ∧ r.2.2.1 175 9 ≠ 0) ∨ (r.1 = 1 ∧ h_F M r.2))
theorem h_Q0 {M M' : gM} (H : y_HT M') (f : y_Fr h_A M M') (h : M'.2.1 175 9 ≠ 0) : Ok (some ((0 : Int32), M')) (h_Q M) := Ok_s ⟨⟨H, f⟩, Or.inl ⟨rfl, h⟩⟩
theorem h_Q1 {M M' : gM} (H : y_HT M') (f : h_F M M') : Ok (some ((1 : Int32), M')) (h_Q M) := Ok_s ⟨⟨H, f.1⟩, Or.inr ⟨rfl, f⟩⟩
theorem h_Qw {M M1 : gM} {o : Option (Int32 × gM)} (f : h_F M M1) (h : Ok o (h_Q M1)) : Ok o (h_Q M) := Ok_w h (fun _ z => ⟨⟨z.1.1, y_tr f.1 z.1.2⟩, z.2.imp id (fun w => ⟨w.1, h_tr f w.2⟩)⟩)
theorem h_F_at {M : gM} {p : Nat} (H : y_HT M) (h1 : n_x M ≤ p) (h2 : p ≤ n_s M) : y_HT (n_at M p) ∧ h_F M (n_at M p) := by
  have s1 := n_s1 H
  obtain ⟨H1, f1⟩ := n_at_set (p := p) H (by omega)
  exact ⟨H1, y_fl (by decide) f1, by rw [n_at_x (by omega)]; exact h1, by rw [n_at_x (by omega), n_at_s]; exact h2⟩
theorem h_see {M : gM} {β : Type} {f : Int32 × gM → Option β} {Q : β → Prop} (H : y_HT M) (hx : n_x M ≤ n_s M) (h : ∀ M', y_HT M' → h_F M M' → M' = n_at M (n_sk M (n_x M)) → Ok (f (n_c M (n_x M'), M')) Q) : Ok ((F_X12_see (some 175) M).bind f) Q := by
  have k1 := n_sk_le hx
  have s1 := n_s1 H
  rw [R_see H hx, Option.bind_some]
  obtain ⟨H1, f1⟩ := h_F_at (p := n_sk M (n_x M)) H k1.1 k1.2
  have := h _ H1 f1 rfl
  rw [n_at_x (by omega)] at this
  exact this
theorem h_word {M : gM} {w : Int64} {β : Type} {f : Int32 × gM → Option β} {Q : β → Prop} (H : y_HT M) (hx : n_x M ≤ n_s M) (h : ∀ v M', v = 0 ∨ v = 1 → y_HT M' → h_F M M' → Ok (f (v, M')) Q) : Ok ((F_X12_isWord (some 175) w M).bind f) Q := by
  have k1 := n_sk_le hx
  rw [R_isWord H hx, Option.bind_some]
  obtain ⟨H1, f1⟩ := h_F_at (p := n_sk M (n_x M)) H k1.1 k1.2
  refine h _ _ ?_ H1 f1
  by_cases c : n_w M (n_sk M (n_x M)) w = true
  · rw [if_pos c]
    exact Or.inr rfl
  · rw [if_neg c]
    exact Or.inl rfl
theorem h_pass {M : gM} {β : Type} {f : gM → Option β} {Q : β → Prop} (H : y_HT M) (hx : n_x M ≤ n_s M) (h : ∀ M', y_HT M' → h_F M M' → M'.2.1 181 = M.2.1 181 → Ok (f M') Q) : Ok ((F_X12_passWord (some 175) M).bind f) Q := by
  have k1 := n_le_le hx
  rw [R_passWord H hx, Option.bind_some]
  obtain ⟨H1, f1⟩ := h_F_at (p := n_le M (n_x M)) H k1.1 k1.2
  exact h _ H1 f1 (n_ata (by decide))
theorem h_fails {M : gM} {k p : Int32} {q : Nat} {β : Type} {f : Int32 × gM → Option β} {Q : β → Prop} (H : y_HT M) (hp : p.toInt = (q : Int)) (hq : q ≤ 400) (hk : 0 ≤ k.toInt ∧ k.toInt ≤ 4) (h : ∀ M', y_HT M' → y_Fr h_A M M' → M'.2.1 175 9 ≠ 0 → Ok (f (0, M')) Q) : Ok ((F_X12_fails (some 175) k p M).bind f) Q := by
  rw [R_fails H, Option.bind_some]
  obtain ⟨H1, f1⟩ := n_f_set (k := k) (p := p) H
  exact h _ H1 (y_fl (by decide) f1) (n_f9 hp hq hk)
theorem h_num {M : gM} {lo hi : Int32} {β : Type} {f : Int32 × gM → Option β} {Q : β → Prop} (H : y_HT M) (hx : n_x M ≤ n_s M) (h0 : ∀ M', y_HT M' → y_Fr h_A M M' → M'.2.1 175 9 ≠ 0 → Ok (f (0, M')) Q)
    (h1 : ∀ M', y_HT M' → h_F M M' → (lo.toInt ≤ (M'.2.1 175 10).toInt ∧ (M'.2.1 175 10).toInt ≤ hi.toInt) → M'.2.1 181 = M.2.1 181 → Ok (f (1, M')) Q) : Ok ((F_X12_numberHere (some 175) lo hi M).bind f) Q := by
  have k1 := n_sk_le hx
  have s1 := n_s1 H
  obtain ⟨p, hp⟩ : ∃ p, p = n_sk M (n_x M) := ⟨_, rfl⟩
  rw [← hp] at k1
  have xi : (Int32.ofNat p).toInt = (p : Int) := i_ofNat (by omega)
  rw [R_numberHere H hx hp, Option.bind_some]
  by_cases c : n_D M p = true
  · rw [if_pos c]
    obtain ⟨H2, f2⟩ := n_an_set (p := p) H (by omega)
    have d1 := n_de_le (M := M) (p := p) (by omega)
    by_cases c2 : n_ok M p lo.toInt hi.toInt = true
    · rw [if_pos c2]
      have x2 : n_x (n_an M p) = n_de M p := by
        show ((n_an M p).2.1 175 8).toInt.toNat = _
        unfold n_an
        rw [mI_ne (Or.inr (by decide)), n_at8, i_ofNat (by omega)]
        omega
      have s2 := n_fs f2 (by decide)
      refine h1 _ H2 ⟨y_fl (by decide) f2, by omega, by omega⟩ ?_ (funext (fun a => y_fa (i := 181) f2 (by decide) (by decide) a))
      have e : (n_an M p).2.1 175 10 = n_v M p := y_mI1
      rw [e]
      exact (of_decide_eq_true c2).2
    · rw [if_neg c2]
      obtain ⟨H3, f3⟩ := n_f_set (k := 1) (p := Int32.ofNat p) H2
      exact h0 _ H3 (y_tr (y_fl (by decide) f2) (y_fl (by decide) f3)) (n_f9 xi (by omega) (by decide))
  · rw [if_neg c]
    obtain ⟨H1, f1⟩ := n_at_set (p := p) H (by omega)
    obtain ⟨H3, f3⟩ := n_f_set (k := 0) (p := Int32.ofNat p) H1
    exact h0 _ H3 (y_tr (y_fl (by decide) f1) (y_fl (by decide) f3)) (n_f9 xi (by omega) (by decide))
/-- a cell of what is read -/
theorem h_s {M : gM} {j v : Int32} {k : Nat} {β : Type} {f : gM → Option β} {Q : β → Prop} (H : y_HT M) (hx : n_x M ≤ n_s M) (hj : j.toInt = (k : Int)) (hk : k < 157) (hr : y_rg (y_tS k) v) (h : ∀ M', y_HT M' → h_F M M' → (∀ a, a ≠ k → M'.2.1 181 a = M.2.1 181 a) → M'.2.1 175 10 = M.2.1 175 10 → Ok (f M') Q) : Ok ((sI M (some 181) j v).bind f) Q := by
  refine y_sI (S := 2 ^ 46) H (i := 181) (n := 157) rfl (by omega) (by omega) (by rw [i_cl hj]; exact hr) (by decide) (fun M' H' f' e' o' l' => ?_)
  refine h M' H' ⟨y_fl (by decide) f', ?_, ?_⟩ (fun a ha => o' 181 a (Or.inr (by rw [i_cl hj]; exact ha))) (o' 175 10 (Or.inl (by decide)))
  · rw [n_fx f' (by decide)]
    exact Nat.le_refl _
  · rw [n_fx f' (by decide), n_fs f' (by decide)]
    exact hx
theorem h_cell {M : gM} {j lo hi : Int32} {k : Nat} {β : Type} {f : Int32 × gM → Option β} {Q : β → Prop} (H : y_HT M) (hx : n_x M ≤ n_s M) (hj : j.toInt = (k : Int)) (hk : k < 157) (hr : ∀ v : Int32, lo.toInt ≤ v.toInt → v.toInt ≤ hi.toInt → y_rg (y_tS k) v) (h0 : ∀ M', y_HT M' → y_Fr h_A M M' → M'.2.1 175 9 ≠ 0 → Ok (f (0, M')) Q)
    (h1 : ∀ M', y_HT M' → h_F M M' → (∀ a, a ≠ k → M'.2.1 181 a = M.2.1 181 a) → Ok (f (1, M')) Q) : Ok ((F_X12_cellHere (some 175) j lo hi M).bind f) Q := by
  refine Ok_b (P := fun r => (r.1 = 0 ∧ y_HT r.2 ∧ y_Fr h_A M r.2 ∧ r.2.2.1 175 9 ≠ 0) ∨ (r.1 = 1 ∧ y_HT r.2 ∧ h_F M r.2 ∧ ∀ a, a ≠ k → r.2.2.1 181 a = M.2.1 181 a)) ?_ (fun r z => ?_)
  · delta F_X12_cellHere F_X12_cellHere_b0
    rw [e_gO H, Option.bind_some]
    refine h_num H hx (fun M' H' f' g' => ?_) (fun M' H' f' r' u' => ?_)
    · dsimp only
      rw [if_pos rfl]
      exact Ok_s (Or.inl ⟨rfl, H', f', g'⟩)
    · dsimp only
      rw [if_neg (by decide), e_gR H' (w := 181) rfl (by decide), Option.bind_some, e_gI H', Option.bind_some]
      refine h_s H' f'.2.2 hj hk (hr _ r'.1 r'.2) (fun M2 H2 f2 o2 _ => ?_)
      exact Ok_s (Or.inr ⟨rfl, H2, h_tr f' f2, fun a ha => (o2 a ha).trans (congrFun u' a)⟩)
  · obtain ⟨a, b⟩ := r
    rcases z with ⟨z, z2, z3, z4⟩ | ⟨z, z2, z3, z4⟩
    · dsimp only at z
      subst z
      exact h0 _ z2 z3 z4
    · dsimp only at z
      subst z
      exact h1 _ z2 z3 z4
theorem h_tSf {k : Nat} {v : Int32} (h : y_tS k = (-2147483648, 2147483647)) : y_rg (y_tS k) v := by
  rw [h]
  exact i_rng v
theorem h_rd {M : gM} {k : Nat} {lo hi : Int} {j : Int32} {β : Type} {f : Int32 → Option β} {Q : β → Prop} (H : y_HT M) (hj : j.toInt = (k : Int)) (hk : k < 157) (ht : y_tS k = (lo, hi)) (h : ∀ v : Int32, M.2.1 181 k = v → (lo ≤ v.toInt ∧ v.toInt ≤ hi) → Ok (f v) Q) : Ok ((aI 20 M (some 181) j).bind f) Q := by
  refine y_aIr (lo := lo) (hi := hi) H (i := 181) (n := 157) rfl (by decide) (by omega) (by omega) (by rw [i_cl hj]; exact ht) (fun v e r => h v ?_ r)
  rw [← e, i_cl hj]
/-- the end of a clause that is one of the house's -/
theorem h_end {M M1 : gM} {o : Option (Int32 × gM)} (f : h_F M M1) (h : Ok o (h_Q M1)) : Ok (o.bind fun (v, M2) => if v = 0 ∨ v = 1 then some (v, M2) else none) (h_Q M) := by
  refine Ok_b h (fun r z => ?_)
  obtain ⟨a, b⟩ := r
  refine Ok_t ?_ (Ok_s ⟨⟨z.1.1, y_tr f.1 z.1.2⟩, z.2.imp id (fun w => ⟨w.1, h_tr f w.2⟩)⟩)
  rcases z.2 with z | z
  · exact Or.inl z.1
  · exact Or.inr z.1
theorem P_isHouseHere {M : gM} {l1 : Int32} {q : Nat} (H : y_HT M) (hx : n_x M ≤ n_s M) (hl : l1.toInt = (q : Int)) (hq : q ≤ 400) : Ok (F_X12_isHouseHere (some 175) l1 M) (h_Q M) := by
  delta F_X12_isHouseHere F_X12_isHouseHere_b0
  rw [e_gR H (w := 181) rfl (by decide), Option.bind_some]
  refine h_rd H (k := 0) rfl (by decide) rfl (fun v2 q2 r2 => ?_)
  refine Ok_i (fun c => ?_) (fun c => ?_)
  · rw [e_gO H, Option.bind_some]
    refine h_pass H hx (fun M4 H4 f4 u4 => ?_)
    rw [e_gC H4, Option.bind_some]
    refine h_cell H4 f4.2.2 (k := 5) rfl (by decide) (fun v _ _ => h_tSf rfl) (fun M7 H7 f7 g7 => ?_) (fun M7 H7 f7 u7 => ?_)
    · dsimp only
      rw [if_pos rfl]
      exact h_Q0 H7 (y_tr f4.1 f7) g7
    · dsimp only
      rw [if_neg (by decide), e_gR H7 (w := 181) rfl (by decide), Option.bind_some]
      refine h_s H7 f7.2.2 (k := 0) rfl (by decide) (h_tSf rfl) (fun M9 H9 f9 _ _ => ?_)
      exact h_Q1 H9 (h_tr f4 (h_tr f7 f9))
  · rw [e_gO H, Option.bind_some]
    refine h_fails H hl hq (by decide) (fun M' H' f' g' => ?_)
    dsimp only
    rw [if_pos (Or.inl rfl)]
    exact h_Q0 H' f' g'
theorem h_tS11 {k l : Nat} (h : l ≤ 6) (e : k = 11 + 4 * l) : y_tS k = (0, 20) := by
  unfold y_tS
  rw [if_neg (by omega), if_pos (by omega)]
theorem h_tS38 {k l : Nat} (h : l ≤ 6) (e : k = 38 + 2 * l) : y_tS k = (0, 99) := by
  unfold y_tS
  rw [if_neg (by omega), if_neg (by omega), if_pos (by omega)]
theorem h_tSn {k : Nat} (h1 : ¬ (k = 1 ∨ k = 2)) (h2 : ¬ (11 ≤ k ∧ k ≤ 35 ∧ k % 4 = 3)) (h3 : ¬ (38 ≤ k ∧ k ≤ 50 ∧ k % 2 = 0)) : y_tS k = (-2147483648, 2147483647) := by
  unfold y_tS
  rw [if_neg h1, if_neg h2, if_neg h3]
theorem h_in {k : Nat} {v : Int32} {lo hi : Int} (ht : y_tS k = (lo, hi)) (h : lo ≤ v.toInt ∧ v.toInt ≤ hi) : y_rg (y_tS k) v := by
  rw [ht]
  exact h
theorem P_isThingHere {M : gM} {l1 : Int32} {q : Nat} (H : y_HT M) (hx : n_x M ≤ n_s M) (hl : l1.toInt = (q : Int)) (hq : q ≤ 400) : Ok (F_X12_isThingHere (some 175) l1 M) (h_Q M) := by
  delta F_X12_isThingHere F_X12_isThingHere_b0 F_X12_isThingHere_b71
  have z7 : (7 : Int32).toInt = 7 := rfl
  have z0 : (0 : Int32).toInt = 0 := rfl
  have z20 : (20 : Int32).toInt = 20 := rfl
  rw [e_gR H (w := 181) rfl (by decide), Option.bind_some]
  refine h_rd H (k := 1) rfl (by decide) rfl (fun v2 q2 r2 => ?_)
  refine Ok_i (fun c => ?_) (fun c => ?_)
  · rw [e_gO H, Option.bind_some]
    refine h_fails H hl hq (by decide) (fun M' H' f' g' => ?_)
    dsimp only
    rw [if_pos (Or.inl rfl)]
    exact h_Q0 H' f' g'
  · have c' := i_ne c
    rw [e_gO H, Option.bind_some]
    refine h_pass H hx (fun M4 H4 f4 u4 => ?_)
    rw [e_gR H4 (w := 181) rfl (by decide), Option.bind_some]
    refine h_rd H4 (k := 1) rfl (by decide) rfl (fun v6 q6 r6 => ?_)
    have e6 : v6 = v2 := by
      rw [← q6, ← q2]
      exact congrFun u4 1
    obtain ⟨n, hn⟩ : ∃ n : Nat, v6.toInt = (n : Int) ∧ n ≤ 6 := ⟨v6.toInt.toNat, by omega, by rw [e6]; omega⟩
    have a1 := i_mulL (c := (4 : Int32)) (x := v6) (n := 4) rfl (by omega) (by omega)
    have a2 := i_cadd (c := (10 : Int32)) (x := (4 : Int32) * v6) (n := 10) rfl (by omega) (by omega)
    have a3 := i_addc (x := (10 : Int32) + (4 : Int32) * v6) (c := (1 : Int32)) (n := 1) rfl (by omega) (by omega)
    have a4 := i_addc (x := (10 : Int32) + (4 : Int32) * v6) (c := (2 : Int32)) (n := 2) rfl (by omega) (by omega)
    have a5 := i_addc (x := (10 : Int32) + (4 : Int32) * v6) (c := (3 : Int32)) (n := 3) rfl (by omega) (by omega)
    rw [e_gC H4, Option.bind_some]
    refine h_cell H4 f4.2.2 (k := 10 + 4 * n) (by omega) (by omega) (fun v _ _ => h_tSf (h_tSn (by omega) (by omega) (by omega))) (fun M9 H9 f9 g9 => ?_) (fun M9 H9 f9 u9 => ?_)
    · dsimp only
      rw [if_pos rfl]
      exact h_Q0 H9 (y_tr f4.1 f9) g9
    dsimp only
    rw [if_neg (by decide), e_gC H9, Option.bind_some]
    refine h_cell H9 f9.2.2 (k := 11 + 4 * n) (by omega) (by omega) (fun v b1 b2 => h_in (h_tS11 (l := n) (by omega) rfl) (by omega)) (fun M12 H12 f12 g12 => ?_) (fun M12 H12 f12 u12 => ?_)
    · dsimp only
      rw [if_pos rfl]
      exact h_Q0 H12 (y_tr f4.1 (y_tr f9.1 f12)) g12
    dsimp only
    rw [if_neg (by decide), e_gC H12, Option.bind_some]
    refine h_cell H12 f12.2.2 (k := 12 + 4 * n) (by omega) (by omega) (fun v _ _ => h_tSf (h_tSn (by omega) (by omega) (by omega))) (fun M15 H15 f15 g15 => ?_) (fun M15 H15 f15 u15 => ?_)
    · dsimp only
      rw [if_pos rfl]
      exact h_Q0 H15 (y_tr f4.1 (y_tr f9.1 (y_tr f12.1 f15))) g15
    dsimp only
    rw [if_neg (by decide), e_gR H15 (w := 181) rfl (by decide), Option.bind_some]
    refine h_s H15 f15.2.2 (k := 13 + 4 * n) (by omega) (by omega) (h_tSf (h_tSn (by omega) (by omega) (by omega))) (fun M17 H17 f17 o17 _ => ?_)
    rw [e_gR H17 (w := 181) rfl (by decide), Option.bind_some]
    refine h_rd H17 (k := 1) rfl (by decide) rfl (fun v19 q19 r19 => ?_)
    have F17 := h_tr f4 (h_tr f9 (h_tr f12 (h_tr f15 f17)))
    have e19 : v19 = v6 := by
      rw [← q19, o17 1 (by omega), u15 1 (by omega), u12 1 (by omega), u9 1 (by omega)]
      exact q6
    have a6 := i_addc (x := v19) (c := (1 : Int32)) (n := 1) rfl (by omega) (by omega)
    have h19 : v19.toInt ≤ 6 := by rw [e19]; omega
    refine h_s H17 f17.2.2 (k := 1) rfl (by decide) (h_in (lo := 0) (hi := 7) rfl (by omega)) (fun M20 H20 f20 _ _ => ?_)
    exact h_Q1 H20 (h_tr F17 f20)
theorem P_isHeirHere_L77 {n : Nat} (hn : n ≤ 6) {l2 : Int32} (h2 : l2.toInt = (n : Int)) : ∀ (m k : Nat) {l3 : Int32} {M : gM}, y_HT M → n_x M ≤ n_s M → (M.2.1 181 2).toInt = (n : Int) → l3.toInt = (k : Int) → k ≤ 7 → 7 - k < m → Ok (F_X12_isHeirHere_L77 m (some 175) l2 l3 M) (h_Q M) := by
  intro m
  induction m with
  | zero => intro k l3 M H hx h h3 h4 h5; omega
  | succ m ih =>
    intro k l3 M H hx h h3 h4 h5
    show Ok (F_X12_isHeirHere_b77 (F_X12_isHeirHere_L77 m) (some 175) l2 l3 M) _
    have z7 : (7 : Int32).toInt = 7 := rfl
    delta F_X12_isHeirHere_b77
    refine Ok_i (fun c => ?_) (fun c => ?_)
    · rw [e_gR H (w := 181) rfl (by decide), Option.bind_some]
      refine h_rd H (k := 2) rfl (by decide) rfl (fun v q r => ?_)
      rw [q] at h
      have a6 := i_addc (x := v) (c := (1 : Int32)) (n := 1) rfl (by omega) (by omega)
      refine h_s H hx (k := 2) rfl (by decide) (h_in (lo := 0) (hi := 7) rfl (by omega)) (fun M3 H3 f3 _ _ => ?_)
      exact h_Q1 H3 f3
    · have c' := i_nle c
      have a1 := i_mulL (c := (14 : Int32)) (x := l2) (n := 14) rfl (by omega) (by omega)
      have a2 := i_cadd (c := (59 : Int32)) (x := (14 : Int32) * l2) (n := 59) rfl (by omega) (by omega)
      have a3 := i_mulL (c := (2 : Int32)) (x := l3) (n := 2) rfl (by omega) (by omega)
      have a4 := i_add (x := (59 : Int32) + (14 : Int32) * l2) (y := (2 : Int32) * l3) (by omega) (by omega)
      have a5 := i_addc (x := ((59 : Int32) + (14 : Int32) * l2) + (2 : Int32) * l3) (c := (1 : Int32)) (n := 1) rfl (by omega) (by omega)
      rw [e_gR H (w := 181) rfl (by decide), Option.bind_some]
      refine h_s H hx (k := 59 + 14 * n + 2 * k) (by omega) (by omega) (h_tSf (h_tSn (by omega) (by omega) (by omega))) (fun M5 H5 f5 o5 _ => ?_)
      rw [e_gR H5 (w := 181) rfl (by decide), Option.bind_some]
      refine h_s H5 f5.2.2 (k := 59 + 14 * n + 2 * k + 1) (by omega) (by omega) (h_tSf (h_tSn (by omega) (by omega) (by omega))) (fun M7 H7 f7 o7 _ => ?_)
      refine h_Qw (h_tr f5 f7) (ih (k + 1) H7 f7.2.2 ?_ ?_ (by omega) (by omega))
      · rw [o7 2 (by omega), o5 2 (by omega)]
        exact h
      · rw [n_inc h3 (by omega), i_ofNat (by omega)]
theorem P_isHeirHere {M : gM} {l1 : Int32} {q : Nat} (H : y_HT M) (hx : n_x M ≤ n_s M) (hl : l1.toInt = (q : Int)) (hq : q ≤ 400) : Ok (F_X12_isHeirHere (some 175) l1 M) (h_Q M) := by
  delta F_X12_isHeirHere F_X12_isHeirHere_b0 F_X12_isHeirHere_b63
  have z7 : (7 : Int32).toInt = 7 := rfl
  have z0 : (0 : Int32).toInt = 0 := rfl
  have z99 : (99 : Int32).toInt = 99 := rfl
  rw [e_gR H (w := 181) rfl (by decide), Option.bind_some]
  refine h_rd H (k := 2) rfl (by decide) rfl (fun v2 q2 r2 => ?_)
  refine Ok_i (fun c => ?_) (fun c => ?_)
  · rw [e_gO H, Option.bind_some]
    refine h_fails H hl hq (by decide) (fun M' H' f' g' => ?_)
    dsimp only
    rw [if_pos (Or.inl rfl)]
    exact h_Q0 H' f' g'
  · have c' := i_ne c
    rw [e_gO H, Option.bind_some]
    refine h_pass H hx (fun M4 H4 f4 u4 => ?_)
    rw [e_gR H4 (w := 181) rfl (by decide), Option.bind_some]
    refine h_rd H4 (k := 2) rfl (by decide) rfl (fun v6 q6 r6 => ?_)
    have e6 : v6 = v2 := by
      rw [← q6, ← q2]
      exact congrFun u4 2
    obtain ⟨n, hn⟩ : ∃ n : Nat, v6.toInt = (n : Int) ∧ n ≤ 6 := ⟨v6.toInt.toNat, by omega, by rw [e6]; omega⟩
    have a1 := i_mulL (c := (2 : Int32)) (x := v6) (n := 2) rfl (by omega) (by omega)
    have a2 := i_cadd (c := (38 : Int32)) (x := (2 : Int32) * v6) (n := 38) rfl (by omega) (by omega)
    have a3 := i_addc (x := (38 : Int32) + (2 : Int32) * v6) (c := (1 : Int32)) (n := 1) rfl (by omega) (by omega)
    have a4 := i_cadd (c := (52 : Int32)) (x := v6) (n := 52) rfl (by omega) (by omega)
    rw [e_gC H4, Option.bind_some]
    refine h_cell H4 f4.2.2 (k := 38 + 2 * n) (by omega) (by omega) (fun v b1 b2 => h_in (h_tS38 (l := n) (by omega) rfl) (by omega)) (fun M9 H9 f9 g9 => ?_) (fun M9 H9 f9 u9 => ?_)
    · dsimp only
      rw [if_pos rfl]
      exact h_Q0 H9 (y_tr f4.1 f9) g9
    dsimp only
    rw [if_neg (by decide), e_gC H9, Option.bind_some]
    refine h_cell H9 f9.2.2 (k := 39 + 2 * n) (by omega) (by omega) (fun v _ _ => h_tSf (h_tSn (by omega) (by omega) (by omega))) (fun M12 H12 f12 g12 => ?_) (fun M12 H12 f12 u12 => ?_)
    · dsimp only
      rw [if_pos rfl]
      exact h_Q0 H12 (y_tr f4.1 (y_tr f9.1 f12)) g12
    dsimp only
    rw [if_neg (by decide), e_gR H12 (w := 181) rfl (by decide), Option.bind_some]
    refine h_s H12 f12.2.2 (k := 52 + n) (by omega) (by omega) (h_tSf (h_tSn (by omega) (by omega) (by omega))) (fun M14 H14 f14 o14 _ => ?_)
    refine h_Qw (h_tr f4 (h_tr f9 (h_tr f12 f14))) (P_isHeirHere_L77 hn.2 hn.1 _ 0 H14 f14.2.2 ?_ rfl (by omega) (n_fu (by omega)))
    rw [o14 2 (by omega), u12 2 (by omega), u9 2 (by omega), q6]
    exact hn.1
theorem P_isSongHere {M : gM} (H : y_HT M) (hx : n_x M ≤ n_s M) : Ok (F_X12_isSongHere (some 175) M) (h_Q M) := by
  delta F_X12_isSongHere F_X12_isSongHere_b0
  rw [e_gO H, Option.bind_some]
  refine h_pass H hx (fun M2 H2 f2 u2 => ?_)
  rw [e_gR H2 (w := 181) rfl (by decide), Option.bind_some]
  refine h_rd H2 (k := 1) rfl (by decide) rfl (fun v4 q4 r4 => ?_)
  rw [e_gC H2, Option.bind_some]
  refine h_num H2 f2.2.2 (fun M7 H7 f7 g7 => ?_) (fun M7 H7 f7 r7 u7 => ?_)
  · dsimp only
    rw [if_pos rfl]
    exact h_Q0 H7 (y_tr f2.1 f7) g7
  · dsimp only
    rw [if_neg (by decide), e_gR H7 (w := 181) rfl (by decide), Option.bind_some]
    refine h_rd H7 (k := 7) rfl (by decide) rfl (fun v9 _ _ => ?_)
    rw [e_gI H7, Option.bind_some]
    refine h_s H7 f7.2.2 (k := 7) rfl (by decide) (h_tSf rfl) (fun M11 H11 f11 _ _ => ?_)
    exact h_Q1 H11 (h_tr f2 (h_tr f7 f11))
theorem P_isHateHere {M : gM} (H : y_HT M) (hx : n_x M ≤ n_s M) : Ok (F_X12_isHateHere (some 175) M) (h_Q M) := by
  delta F_X12_isHateHere F_X12_isHateHere_b0
  rw [e_gO H, Option.bind_some]
  refine h_pass H hx (fun M2 H2 f2 u2 => ?_)
  rw [e_gR H2 (w := 181) rfl (by decide), Option.bind_some]
  refine h_rd H2 (k := 2) rfl (by decide) rfl (fun v4 q4 r4 => ?_)
  rw [e_gC H2, Option.bind_some]
  refine h_num H2 f2.2.2 (fun M7 H7 f7 g7 => ?_) (fun M7 H7 f7 r7 u7 => ?_)
  · dsimp only
    rw [if_pos rfl]
    exact h_Q0 H7 (y_tr f2.1 f7) g7
  · dsimp only
    rw [if_neg (by decide), e_gR H7 (w := 181) rfl (by decide), Option.bind_some]
    refine h_rd H7 (k := 6) rfl (by decide) rfl (fun v9 _ _ => ?_)
    rw [e_gI H7, Option.bind_some]
    refine h_s H7 f7.2.2 (k := 6) rfl (by decide) (h_tSf rfl) (fun M11 H11 f11 _ _ => ?_)
    exact h_Q1 H11 (h_tr f2 (h_tr f7 f11))
theorem P_areCousinsHere {M : gM} {l1 : Int32} {q : Nat} (H : y_HT M) (hx : n_x M ≤ n_s M) (hl : l1.toInt = (q : Int)) (hq : q ≤ 400) : Ok (F_X12_areCousinsHere (some 175) l1 M) (h_Q M) := by
  delta F_X12_areCousinsHere F_X12_areCousinsHere_b0 F_X12_areCousinsHere_b100
  have z0 : (0 : Int32).toInt = 0 := rfl
  rw [e_gR H (w := 181) rfl (by decide), Option.bind_some]
  refine h_rd H (k := 3) rfl (by decide) rfl (fun v2 q2 r2 => ?_)
  refine Ok_i (fun c => ?_) (fun c => ?_)
  · rw [e_gO H, Option.bind_some]
    refine h_fails H hl hq (by decide) (fun M' H' f' g' => ?_)
    dsimp only
    rw [if_pos (Or.inl rfl)]
    exact h_Q0 H' f' g'
  rw [e_gO H, Option.bind_some]
  refine h_pass H hx (fun M4 H4 f4 u4 => ?_)
  rw [e_gR H4 (w := 181) rfl (by decide), Option.bind_some]
  refine h_rd H4 (k := 2) rfl (by decide) rfl (fun v6 q6 r6 => ?_)
  have b6 := i_subc (x := v6) (c := (1 : Int32)) (n := 1) rfl (by omega) (by omega)
  rw [e_gC H4, Option.bind_some]
  refine h_num H4 f4.2.2 (fun M9 H9 f9 g9 => ?_) (fun M9 H9 f9 r9 u9 => ?_)
  · dsimp only
    rw [if_pos rfl]
    exact h_Q0 H9 (y_tr f4.1 f9) g9
  dsimp only
  rw [if_neg (by decide), e_gI H9, Option.bind_some, e_gC H9, Option.bind_some]
  obtain ⟨v10, e10⟩ : ∃ v, v = M9.2.1 175 10 := ⟨_, rfl⟩
  rw [← e10] at r9 ⊢
  have F9 := h_tr f4 f9
  refine h_see H9 f9.2.2 (fun M13 H13 f13 e13 => ?_)
  dsimp only
  have F13 := h_tr F9 f13
  have x13 := n_x1 H13
  rw [e_gI H13, Option.bind_some, e_gR H13 (w := 181) rfl (by decide), Option.bind_some]
  refine h_rd H13 (k := 2) rfl (by decide) rfl (fun v16 q16 r16 => ?_)
  have b16 := i_subc (x := v16) (c := (1 : Int32)) (n := 1) rfl (by omega) (by omega)
  rw [e_gC H13, Option.bind_some]
  refine h_num H13 f13.2.2 (fun M19 H19 f19 g19 => ?_) (fun M19 H19 f19 r19 u19 => ?_)
  · dsimp only
    rw [if_pos rfl]
    exact h_Q0 H19 (y_tr F13.1 f19) g19
  dsimp only
  have F19 := h_tr F13 f19
  have bad : Ok ((gO 12 M19 (some 175)).bind fun i1 => (F_X12_fails (some i1) (1 : Int32) (M13.2.1 175 8) M19).bind fun (v2, M3) => if v2 = 0 ∨ v2 = 1 then some (v2, M3) else none) (h_Q M) := by
    rw [e_gO H19, Option.bind_some]
    refine h_fails H19 x13.1 x13.2 (by decide) (fun M' H' f' g' => ?_)
    dsimp only
    rw [if_pos (Or.inl rfl)]
    exact h_Q0 H' (y_tr F19.1 f') g'
  rw [if_neg (by decide), e_gI H19, Option.bind_some]
  obtain ⟨n, hn⟩ : ∃ n : Nat, v10.toInt = (n : Int) ∧ n ≤ 6 := ⟨v10.toInt.toNat, by omega, by omega⟩
  have a4 := i_cadd (c := (52 : Int32)) (x := v10) (n := 52) rfl (by omega) (by omega)
  refine Ok_i (fun _ => bad) (fun _ => ?_)
  rw [e_gR H19 (w := 181) rfl (by decide), Option.bind_some]
  refine h_rd H19 (k := 52 + n) (by omega) (by omega) (h_tSn (by omega) (by omega) (by omega)) (fun v22 _ _ => ?_)
  rw [Option.bind_some]
  refine Ok_b (S_X12_isOf H19) (fun v24 _ => ?_)
  refine Ok_i (fun _ => ?_) (fun _ => bad)
  rw [Option.bind_some]
  refine h_rd H19 (k := 52 + n) (by omega) (by omega) (h_tSn (by omega) (by omega) (by omega)) (fun v26 _ _ => ?_)
  rw [Option.bind_some]
  refine h_s H19 f19.2.2 (k := 52 + n) (by omega) (by omega) (h_tSf (h_tSn (by omega) (by omega) (by omega))) (fun M28 H28 f28 o28 t28 => ?_)
  rw [e_gR H28 (w := 181) rfl (by decide), Option.bind_some, e_gI H28, Option.bind_some, t28]
  obtain ⟨v30, e30⟩ : ∃ v, v = M19.2.1 175 10 := ⟨_, rfl⟩
  rw [← e30] at r19 ⊢
  obtain ⟨m, hm⟩ : ∃ m : Nat, v30.toInt = (m : Int) ∧ m ≤ 6 := ⟨v30.toInt.toNat, by omega, by omega⟩
  have a5 := i_cadd (c := (52 : Int32)) (x := v30) (n := 52) rfl (by omega) (by omega)
  refine h_rd H28 (k := 52 + m) (by omega) (by omega) (h_tSn (by omega) (by omega) (by omega)) (fun v31 _ _ => ?_)
  refine h_s H28 f28.2.2 (k := 52 + m) (by omega) (by omega) (h_tSf (h_tSn (by omega) (by omega) (by omega))) (fun M32 H32 f32 o32 _ => ?_)
  rw [e_gR H32 (w := 181) rfl (by decide), Option.bind_some]
  refine h_rd H32 (k := 3) rfl (by decide) rfl (fun v34 _ _ => ?_)
  refine h_s H32 f32.2.2 (k := 3) rfl (by decide) (h_tSf rfl) (fun M35 H35 f35 _ _ => ?_)
  exact h_Q1 H35 (h_tr F19 (h_tr f28 (h_tr f32 f35)))
theorem P_isKnownHere {M : gM} (H : y_HT M) (hx : n_x M ≤ n_s M) : Ok (F_X12_isKnownHere (some 175) M) (h_Q M) := by
  delta F_X12_isKnownHere F_X12_isKnownHere_b0 F_X12_isKnownHere_b88
  have z0 : (0 : Int32).toInt = 0 := rfl
  rw [e_gO H, Option.bind_some]
  refine h_pass H hx (fun M2 H2 f2 u2 => ?_)
  rw [e_gR H2 (w := 181) rfl (by decide), Option.bind_some]
  refine h_rd H2 (k := 2) rfl (by decide) rfl (fun v4 q4 r4 => ?_)
  have b4 := i_subc (x := v4) (c := (1 : Int32)) (n := 1) rfl (by omega) (by omega)
  rw [e_gC H2, Option.bind_some]
  refine h_num H2 f2.2.2 (fun M7 H7 f7 g7 => ?_) (fun M7 H7 f7 r7 u7 => ?_)
  · dsimp only
    rw [if_pos rfl]
    exact h_Q0 H7 (y_tr f2.1 f7) g7
  dsimp only
  rw [if_neg (by decide), e_gI H7, Option.bind_some, e_gR H7 (w := 181) rfl (by decide), Option.bind_some]
  obtain ⟨v8, e8⟩ : ∃ v, v = M7.2.1 175 10 := ⟨_, rfl⟩
  rw [← e8] at r7 ⊢
  refine h_rd H7 (k := 1) rfl (by decide) rfl (fun v10 q10 r10 => ?_)
  have b10 := i_subc (x := v10) (c := (1 : Int32)) (n := 1) rfl (by omega) (by omega)
  rw [e_gC H7, Option.bind_some]
  have F7 := h_tr f2 f7
  refine h_num H7 f7.2.2 (fun M13 H13 f13 g13 => ?_) (fun M13 H13 f13 r13 u13 => ?_)
  · dsimp only
    rw [if_pos rfl]
    exact h_Q0 H13 (y_tr F7.1 f13) g13
  dsimp only
  have F13 := h_tr F7 f13
  rw [if_neg (by decide), e_gI H13, Option.bind_some, e_gC H13, Option.bind_some]
  obtain ⟨v14, e14⟩ : ∃ v, v = M13.2.1 175 10 := ⟨_, rfl⟩
  rw [← e14] at r13 ⊢
  obtain ⟨n, hn⟩ : ∃ n : Nat, v8.toInt = (n : Int) ∧ n ≤ 6 := ⟨v8.toInt.toNat, by omega, by omega⟩
  obtain ⟨m, hm⟩ : ∃ m : Nat, v14.toInt = (m : Int) ∧ m ≤ 6 := ⟨v14.toInt.toNat, by omega, by omega⟩
  have a1 := i_mulL (c := (14 : Int32)) (x := v8) (n := 14) rfl (by omega) (by omega)
  have a2 := i_cadd (c := (59 : Int32)) (x := (14 : Int32) * v8) (n := 59) rfl (by omega) (by omega)
  have a3 := i_mulL (c := (2 : Int32)) (x := v14) (n := 2) rfl (by omega) (by omega)
  have a4 := i_add (x := (59 : Int32) + (14 : Int32) * v8) (y := (2 : Int32) * v14) (by omega) (by omega)
  have a5 := i_addc (x := ((59 : Int32) + (14 : Int32) * v8) + (2 : Int32) * v14) (c := (1 : Int32)) (n := 1) rfl (by omega) (by omega)
  refine h_cell H13 f13.2.2 (k := 59 + 14 * n + 2 * m) (by omega) (by omega) (fun v _ _ => h_tSf (h_tSn (by omega) (by omega) (by omega))) (fun M17 H17 f17 g17 => ?_) (fun M17 H17 f17 u17 => ?_)
  · dsimp only
    rw [if_pos rfl]
    exact h_Q0 H17 (y_tr F13.1 f17) g17
  dsimp only
  have F17 := h_tr F13 f17
  rw [if_neg (by decide), e_gC H17, Option.bind_some]
  refine h_cell H17 f17.2.2 (k := 59 + 14 * n + 2 * m + 1) (by omega) (by omega) (fun v _ _ => h_tSf (h_tSn (by omega) (by omega) (by omega))) (fun M20 H20 f20 g20 => ?_) (fun M20 H20 f20 u20 => ?_)
  · dsimp only
    rw [if_pos rfl]
    exact h_Q0 H20 (y_tr F17.1 f20) g20
  · dsimp only
    rw [if_neg (by decide)]
    exact h_Q1 H20 (h_tr F17 f20)
theorem P_houseLineHere {M : gM} {l1 : Int32} {q : Nat} (H : y_HT M) (hx : n_x M ≤ n_s M) (hl : l1.toInt = (q : Int)) (hq : q ≤ 400) : Ok (F_X12_houseLineHere (some 175) l1 M) (h_Q M) := by
  delta F_X12_houseLineHere F_X12_houseLineHere_b0
  rw [e_gO H, Option.bind_some]
  refine h_word H hx (fun v2 M3 w2 H3 f3 => ?_)
  dsimp only
  refine Ok_i (fun _ => ?_) (fun _ => ?_)
  · rw [e_gR H3 (w := 181) rfl (by decide), Option.bind_some]
    refine h_rd H3 (k := 0) rfl (by decide) rfl (fun v5 _ _ => ?_)
    refine Ok_i (fun _ => ?_) (fun _ => ?_)
    · rw [e_gC H3, Option.bind_some]
      refine h_fails H3 hl hq (by decide) (fun M' H' f' g' => ?_)
      dsimp only
      rw [if_pos (Or.inl rfl)]
      exact h_Q0 H' (y_tr f3.1 f') g'
    rw [e_gC H3, Option.bind_some]
    refine h_word H3 f3.2.2 (fun v7 M8 w8 H8 f8 => ?_)
    have F8 := h_tr f3 f8
    dsimp only
    refine Ok_i (fun _ => ?_) (fun _ => ?_)
    · rw [e_gC H8, Option.bind_some]
      refine h_word H8 f8.2.2 (fun v10 M11 w11 H11 f11 => ?_)
      have F11 := h_tr F8 f11
      dsimp only
      refine Ok_i (fun _ => ?_) (fun _ => ?_)
      · rw [e_gC H11, Option.bind_some]
        refine h_word H11 f11.2.2 (fun v13 M14 w14 H14 f14 => ?_)
        have F14 := h_tr F11 f14
        dsimp only
        refine Ok_i (fun _ => ?_) (fun _ => ?_)
        · rw [e_gC H14, Option.bind_some]
          refine h_word H14 f14.2.2 (fun v16 M17 w17 H17 f17 => ?_)
          have F17 := h_tr F14 f17
          dsimp only
          refine Ok_i (fun _ => ?_) (fun _ => ?_)
          · rw [e_gC H17, Option.bind_some]
            refine h_word H17 f17.2.2 (fun v19 M20 w20 H20 f20 => ?_)
            have F20 := h_tr F17 f20
            dsimp only
            refine Ok_i (fun _ => ?_) (fun _ => ?_)
            · rw [e_gC H20, Option.bind_some]
              exact h_end F20 (P_isKnownHere H20 f20.2.2)
            · rw [e_gC H20, Option.bind_some]
              exact h_end F20 (P_areCousinsHere H20 f20.2.2 hl hq)
          · rw [e_gC H17, Option.bind_some]
            exact h_end F17 (P_isHateHere H17 f17.2.2)
        · rw [e_gC H14, Option.bind_some]
          exact h_end F14 (P_isSongHere H14 f14.2.2)
      · rw [e_gC H11, Option.bind_some]
        exact h_end F11 (P_isHeirHere H11 f11.2.2 hl hq)
    · rw [e_gC H8, Option.bind_some]
      exact h_end F8 (P_isThingHere H8 f8.2.2 hl hq)
  · rw [e_gC H3, Option.bind_some]
    exact h_end f3 (P_isHouseHere H3 f3.2.2 hl hq)
/-- is it a house's word -/
theorem P_isHouseWord {M : gM} (H : y_HT M) (hx : n_x M ≤ n_s M) : Ok (F_X12_isHouseWord (some 175) M) (fun r => (r.1 = 0 ∨ r.1 = 1) ∧ y_HT r.2 ∧ h_F M r.2) := by
  have rf : h_F M M := ⟨y_rf0 _ _, Nat.le_refl _, hx⟩
  have b45 : ∀ {s : Int32} {M1 : gM}, y_HT M1 → h_F M M1 → Ok (F_X12_isHouseWord_b45 (some 175) s M1) (fun r => (r.1 = 0 ∨ r.1 = 1) ∧ y_HT r.2 ∧ h_F M r.2) := by
    intro s M1 H1 f1
    delta F_X12_isHouseWord_b45 F_X12_isHouseWord_b80
    refine Ok_i (fun _ => ?_) (fun _ => Ok_s ⟨Or.inr rfl, H1, f1⟩)
    rw [e_gO H1, Option.bind_some]
    refine h_word H1 f1.2.2 (fun v2 M3 w3 H3 f3 => ?_)
    have F3 := h_tr f1 f3
    dsimp only
    refine Ok_i (fun _ => ?_) (fun _ => Ok_s ⟨Or.inr rfl, H3, F3⟩)
    rw [e_gC H3, Option.bind_some]
    refine h_word H3 f3.2.2 (fun v5 M6 w6 H6 f6 => ?_)
    have F6 := h_tr F3 f6
    dsimp only
    refine Ok_i (fun _ => ?_) (fun _ => Ok_s ⟨Or.inr rfl, H6, F6⟩)
    rw [e_gC H6, Option.bind_some]
    refine h_word H6 f6.2.2 (fun v8 M9 w9 H9 f9 => ?_)
    have F9 := h_tr F6 f9
    dsimp only
    exact Ok_i (fun _ => Ok_s ⟨Or.inl rfl, H9, F9⟩) (fun _ => Ok_s ⟨Or.inr rfl, H9, F9⟩)
  delta F_X12_isHouseWord F_X12_isHouseWord_b0 F_X12_isHouseWord_b40
  rw [e_gO H, Option.bind_some]
  refine h_word H hx (fun v2 M3 w3 H3 f3 => ?_)
  dsimp only
  refine Ok_i (fun _ => ?_) (fun _ => b45 H3 f3)
  rw [e_gC H3, Option.bind_some]
  refine h_word H3 f3.2.2 (fun v5 M6 w6 H6 f6 => ?_)
  have F6 := h_tr f3 f6
  dsimp only
  refine Ok_i (fun _ => ?_) (fun _ => b45 H6 F6)
  rw [e_gC H6, Option.bind_some]
  refine h_word H6 f6.2.2 (fun v8 M9 w9 H9 f9 => ?_)
  have F9 := h_tr F6 f9
  dsimp only
  refine Ok_i (fun _ => ?_) (fun _ => b45 H9 F9)
  rw [e_gC H9, Option.bind_some]
  refine h_word H9 f9.2.2 (fun v11 M12 w12 H12 f12 => ?_)
  have F12 := h_tr F9 f12
  dsimp only
  exact Ok_i (fun _ => b45 H12 F12) (fun _ => b45 H12 F12)
