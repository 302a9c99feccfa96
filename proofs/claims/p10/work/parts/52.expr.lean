/-! the reference reads a SUM: what it puts is a list of steps that leaves one number more -/
def n_l (M : gM) (t : Nat) : Nat := (M.2.1 178 t).toInt.toNat
def n_o (M : gM) : Nat := (M.2.1 175 16).toInt.toNat
def n_m (M : gM) : Nat := (M.2.1 175 12).toInt.toNat
theorem n_l1 {M : gM} (H : y_HT M) (t : Nat) : (M.2.1 178 t).toInt = (n_l M t : Int) ∧ n_l M t ≤ 400 := by
  have h := H.2.1 178 (by decide) t
  have h1 : 0 ≤ (M.2.1 178 t).toInt := h.1
  have h2 : (M.2.1 178 t).toInt ≤ 400 := h.2
  unfold n_l
  omega
theorem n_o1 {M : gM} (H : y_HT M) : (M.2.1 175 16).toInt = (n_o M : Int) ∧ n_o M ≤ 400 := by
  have h := H.2.1 175 (by decide) 16
  have h1 : 0 ≤ (M.2.1 175 16).toInt := h.1
  have h2 : (M.2.1 175 16).toInt ≤ 400 := h.2
  unfold n_o
  omega
theorem n_m1 {M : gM} (H : y_HT M) : (M.2.1 175 12).toInt = (n_m M : Int) ∧ n_m M ≤ 60 := by
  have h := H.2.1 175 (by decide) 12
  have h1 : 0 ≤ (M.2.1 175 12).toInt := h.1
  have h2 : (M.2.1 175 12).toInt ≤ 60 := h.2
  unfold n_m
  omega
/-- while a SUM of the rule t is read: since place a the steps leave d; c more can come -/
def p_I (t a d c : Nat) (M : gM) : Prop := ((y_HT M ∧ t ≤ 5) ∧ (M.2.1 175 11).toInt = (t : Int)) ∧ (n_l M t + c ≤ n_x M ∧ n_x M ≤ n_s M) ∧ (a ≤ n_l M t ∧ y_ev (y_sn M t) a (n_l M t - a) = some d) ∧ d ≤ n_m M
/-- the steps that stand, stand; nothing but S changed -/
def p_F (S t : Nat) (M M' : gM) : Prop := y_Fr S M M' ∧ (n_l M t ≤ n_l M' t ∧ ∀ q, q < 400 * t + n_l M t → M'.2.1 177 q = M.2.1 177 q)
theorem p_F_rf {S t : Nat} {M : gM} : p_F S t M M := ⟨y_rf0 _ _, Nat.le_refl _, fun _ _ => rfl⟩
theorem p_F_tr {S t : Nat} {M M1 M2 : gM} (h1 : p_F S t M M1) (h2 : p_F S t M1 M2) : p_F S t M M2 := ⟨y_tr h1.1 h2.1, Nat.le_trans h1.2.1 h2.2.1, fun q hq => (h2.2.2 q (by have := h1.2.1; omega)).trans (h1.2.2 q hq)⟩
theorem p_F_fl {S S2 t : Nat} {M M1 : gM} (h : Nat.land S S2 = S) (h1 : p_F S t M M1) : p_F S2 t M M1 := ⟨y_fl h h1.1, h1.2⟩
/-- of a change that leaves steps and their number alone -/
theorem p_F_of {S S2 t : Nat} {M M' : gM} (f : y_Fr S M M') (h : Nat.land S S2 = S) (h2 : S.testBit 42 = false) (h3 : S.testBit 43 = false) : p_F S2 t M M' := by
  refine ⟨y_fl h f, ?_, fun q _ => y_fa (i := 177) f (by decide) h2 q⟩
  unfold n_l
  rw [y_fa (i := 178) f (by decide) h3 t]
  exact Nat.le_refl _
theorem p_I_of {S t a d c c2 : Nat} {M M' : gM} (I : p_I t a d c M) (H : y_HT M') (f : y_Fr S M M') (h1 : Nat.land S (2 ^ 1 + 2 ^ 11 + 2 ^ 42 + 2 ^ 43) = 0) (hx : n_l M t + c2 ≤ n_x M' ∧ n_x M' ≤ n_s M) (hm : n_m M ≤ n_m M') : p_I t a d c2 M' := by
  have e1 := y_fk (i := 175) (k := 1) f (y_dis h1 (by decide))
  have e11 := y_fk (i := 175) (k := 11) f (y_dis h1 (by decide))
  have a177 : ∀ q, M'.2.1 177 q = M.2.1 177 q := fun q => y_fa (i := 177) f (by decide) (y_dis h1 (by decide)) q
  have a178 : ∀ q, M'.2.1 178 q = M.2.1 178 q := fun q => y_fa (i := 178) f (by decide) (y_dis h1 (by decide)) q
  have el : n_l M' t = n_l M t := by
    unfold n_l
    rw [a178]
  have es : n_s M' = n_s M := by
    unfold n_s
    rw [e1]
  have en : y_sn M' t = y_sn M t := funext (fun j => a177 _)
  refine ⟨⟨⟨H, I.1.1.2⟩, by rw [e11]; exact I.1.2⟩, ⟨by rw [el]; exact hx.1, by rw [es]; exact hx.2⟩, ⟨by rw [el]; exact I.2.2.1.1, by rw [el, en]; exact I.2.2.1.2⟩, Nat.le_trans I.2.2.2 hm⟩
theorem n_at_m {M : gM} {p : Nat} : n_m (n_at M p) = n_m M := by
  unfold n_m
  rw [n_atk (by decide)]
theorem n_at_l {M : gM} {p t : Nat} : n_l (n_at M p) t = n_l M t := by
  unfold n_l
  rw [n_ata (by decide)]
theorem n_at_o {M : gM} {p : Nat} : n_o (n_at M p) = n_o M := by
  unfold n_o
  rw [n_atk (by decide)]
theorem p_I_at {t a d c c2 p : Nat} {M : gM} (I : p_I t a d c M) (h : n_l M t + c2 ≤ p) (hp : p ≤ n_s M) : p_I t a d c2 (n_at M p) := by
  have s1 := n_s1 I.1.1.1
  obtain ⟨H1, f1⟩ := n_at_set (p := p) I.1.1.1 (by omega)
  exact p_I_of I H1 f1 (by decide) (by rw [n_at_x (by omega)]; exact ⟨h, hp⟩) (by rw [n_at_m]; exact Nat.le_refl _)
theorem p_F_at {S t p : Nat} {M : gM} (H : y_HT M) (hp : p ≤ 400) (h : Nat.land (2 ^ 8) S = 2 ^ 8) : p_F S t M (n_at M p) := p_F_of (n_at_set H hp).2 h (by decide) (by decide)
/-- value, term, sum and compare change: 8, 9, 10, 12, sign, length -/
abbrev p_E : Nat := 2 ^ 8 + 2 ^ 9 + 2 ^ 10 + 2 ^ 12 + 2 ^ 42 + 2 ^ 43
def p_P (S t a d c : Nat) (M : gM) : Int32 × gM → Prop := fun r => (y_HT r.2 ∧ p_F S t M r.2) ∧ ((r.1 = 0 ∧ r.2.2.1 175 9 ≠ 0) ∨ (r.1 = 1 ∧ p_I t a d c r.2 ∧ n_x M ≤ n_x r.2))
theorem p_P0 {S t a d c : Nat} {M M' : gM} (H : y_HT M') (f : p_F S t M M') (h : M'.2.1 175 9 ≠ 0) : Ok (some ((0 : Int32), M')) (p_P S t a d c M) := Ok_s ⟨⟨H, f⟩, Or.inl ⟨rfl, h⟩⟩
theorem p_P1 {S t a d c : Nat} {M M' : gM} (I : p_I t a d c M') (f : p_F S t M M') (hx : n_x M ≤ n_x M') : Ok (some ((1 : Int32), M')) (p_P S t a d c M) := Ok_s ⟨⟨I.1.1.1, f⟩, Or.inr ⟨rfl, I, hx⟩⟩
theorem p_Pw {S S1 t a d c : Nat} {M M1 : gM} {o : Option (Int32 × gM)} (f : p_F S t M M1) (hx : n_x M ≤ n_x M1) (h : Ok o (p_P S1 t a d c M1)) (hS : Nat.land S1 S = S1) : Ok o (p_P S t a d c M) := Ok_w h (fun _ z => ⟨⟨z.1.1, p_F_tr f (p_F_fl hS z.1.2)⟩, z.2.imp id (fun w => ⟨w.1, w.2.1, Nat.le_trans hx w.2.2⟩)⟩)
theorem n_f9 {M : gM} {k p : Int32} {q : Nat} (hp : p.toInt = (q : Int)) (hq : q ≤ 400) (hk : 0 ≤ k.toInt ∧ k.toInt ≤ 4) : (n_f M k p).2.1 175 9 ≠ 0 := by
  unfold n_f
  by_cases c : M.2.1 175 9 = 0
  · rw [if_pos c, y_mI1]
    intro e
    have a1 := i_mulL (c := (8 : Int32)) (x := p) (n := 8) rfl (by omega) (by omega)
    have a2 := i_cadd (c := (1 : Int32)) (x := (8 : Int32) * p) (n := 1) rfl (by omega) (by omega)
    have a3 := i_add (x := (1 : Int32) + (8 : Int32) * p) (y := k) (by omega) (by omega)
    rw [e] at a3
    have z : (0 : Int32).toInt = 0 := rfl
    omega
  · rw [if_neg c]
    exact c
theorem p_F_f {S t : Nat} {M : gM} {k p : Int32} (H : y_HT M) (h : Nat.land (2 ^ 9) S = 2 ^ 9) : p_F S t M (n_f M k p) := p_F_of (n_f_set H).2 h (by decide) (by decide)
/-- the FAULT ends it -/
theorem p_Pf {S t a d c : Nat} {M M1 : gM} {k p : Int32} {q : Nat} (H : y_HT M1) (f : p_F S t M M1) (hS : Nat.land (2 ^ 9) S = 2 ^ 9) (hp : p.toInt = (q : Int)) (hq : q ≤ 400) (hk : 0 ≤ k.toInt ∧ k.toInt ≤ 4) : Ok (some ((0 : Int32), n_f M1 k p)) (p_P S t a d c M) :=
  p_P0 (n_f_set H).1 (p_F_tr f (p_F_f H hS)) (n_f9 hp hq hk)
/-! one step is put -/
def n_p (M : gM) (t : Nat) (w : Int32) : gM := mI (mI M 177 (400 * t + n_l M t) w) 178 t (Int32.ofNat (n_l M t + 1))
theorem R_puts {t : Nat} {s v : Int32} {M : gM} (H : y_HT M) (ht : t ≤ 5) (e : (M.2.1 175 11).toInt = (t : Int)) (hl : n_l M t < 400) : F_X12_puts (some 175) s v M = some (n_p M t (s + (16 : Int32) * v)) := by
  have l1 := n_l1 H t
  delta F_X12_puts F_X12_puts_b0
  have ct : (M.2.1 175 11).toNatClampNeg = t := i_cl e
  have a1 := i_mulL (c := (400 : Int32)) (x := M.2.1 175 11) (n := 400) rfl (by omega) (by omega)
  have a2 := i_add (x := (400 : Int32) * M.2.1 175 11) (y := M.2.1 178 t) (by omega) (by omega)
  have a3 : ((400 : Int32) * M.2.1 175 11 + M.2.1 178 t).toInt = ((400 * t + n_l M t : Nat) : Int) := by omega
  rw [e_gR H (w := 177) rfl (by decide), Option.bind_some, e_gI H, Option.bind_some, e_gR H (w := 178) rfl (by decide), Option.bind_some, Option.bind_some, e_aI H (t := 20) (i := 178) (n := 7) rfl (by decide) (by omega) (by omega), Option.bind_some, ct, e_sI H (i := 177) (n := 2400) rfl (by omega) (by omega), Option.bind_some, i_cl a3]
  obtain ⟨H1, f1⟩ := y_set (M' := mI M 177 (400 * t + n_l M t) (s + (16 : Int32) * v)) (S := 2 ^ 42) H (i := 177) (k := 400 * t + n_l M t) (by decide) rfl rfl y_mI1 (fun j a hj => y_mI2 hj) rfl (y_full rfl) (show Nat.testBit (2 ^ 42) 42 = true by decide)
  have e11 : (mI M 177 (400 * t + n_l M t) (s + (16 : Int32) * v)).2.1 175 11 = M.2.1 175 11 := mI_ne (Or.inl (by decide))
  have e78 : (mI M 177 (400 * t + n_l M t) (s + (16 : Int32) * v)).2.1 178 t = M.2.1 178 t := mI_ne (Or.inl (by decide))
  rw [e_gR H1 (w := 178) rfl (by decide), Option.bind_some, e_gI H1, Option.bind_some, e11, e_aI H1 (t := 20) (i := 178) (n := 7) rfl (by decide) (by omega) (by omega), Option.bind_some, ct, e78, e_sI H1 (i := 178) (n := 7) rfl (by omega) (by omega), Option.bind_some, ct, n_inc l1.1 (by omega)]
  rfl
theorem n_p_l {M : gM} {t : Nat} {w : Int32} (h : n_l M t < 400) : n_l (n_p M t w) t = n_l M t + 1 := by
  show ((n_p M t w).2.1 178 t).toInt.toNat = _
  unfold n_p
  rw [y_mI1, i_ofNat (by omega)]
  omega
theorem p_puts {S t a d d2 c : Nat} {M : gM} {w : Int32} (I : p_I t a d (c + 1) M) (hw : y_st w d = some d2) (hd : d2 ≤ n_m M) (hS : Nat.land (2 ^ 42 + 2 ^ 43) S = 2 ^ 42 + 2 ^ 43) : p_I t a d2 c (n_p M t w) ∧ p_F S t M (n_p M t w) ∧ n_x (n_p M t w) = n_x M := by
  obtain ⟨⟨⟨H, ht⟩, e11⟩, ⟨hx, hs⟩, ⟨ha, hev⟩, hm⟩ := I
  have s1 := n_s1 H
  have l1 := n_l1 H t
  have hl : n_l M t < 400 := by omega
  obtain ⟨H1, f1⟩ := y_set (M' := mI M 177 (400 * t + n_l M t) w) (S := 2 ^ 42 + 2 ^ 43) H (i := 177) (k := 400 * t + n_l M t) (by decide) rfl rfl y_mI1 (fun j a hj => y_mI2 hj) rfl (y_full rfl) (show Nat.testBit (2 ^ 42 + 2 ^ 43) 42 = true by decide)
  obtain ⟨H2, f2⟩ := y_set (M' := n_p M t w) (S := 2 ^ 42 + 2 ^ 43) H1 (i := 178) (k := t) (by decide) rfl rfl y_mI1 (fun j a hj => y_mI2 hj) rfl (by
    show y_rg (0, 400) _
    unfold y_rg
    rw [i_ofNat (by omega)]
    exact ⟨by omega, by show ((n_l M t + 1 : Nat) : Int) ≤ 400; omega⟩) (show Nat.testBit (2 ^ 42 + 2 ^ 43) 43 = true by decide)
  have f := y_tr f1 f2
  have el := n_p_l (w := w) hl
  have eq : ∀ q, q ≠ 400 * t + n_l M t → (n_p M t w).2.1 177 q = M.2.1 177 q := fun q hq => (mI_ne (Or.inl (by decide))).trans (mI_ne (Or.inr hq))
  have ew : (n_p M t w).2.1 177 (400 * t + n_l M t) = w := (mI_ne (Or.inl (by decide))).trans y_mI1
  have e1 := y_fk (i := 175) (k := 1) f (by decide)
  have e8 := y_fk (i := 175) (k := 8) f (by decide)
  have e11' := y_fk (i := 175) (k := 11) f (by decide)
  have e12 := y_fk (i := 175) (k := 12) f (by decide)
  have ex : n_x (n_p M t w) = n_x M := by
    unfold n_x
    rw [e8]
  have es : n_s (n_p M t w) = n_s M := by
    unfold n_s
    rw [e1]
  have em : n_m (n_p M t w) = n_m M := by
    unfold n_m
    rw [e12]
  refine ⟨⟨⟨⟨H2, ht⟩, by rw [e11']; exact e11⟩, ⟨by rw [el, ex]; omega, by rw [ex, es]; exact hs⟩, ⟨by rw [el]; omega, ?_⟩, by rw [em]; exact hd⟩, ⟨y_fl hS f, ⟨by rw [el]; omega, fun q hq => eq q (by omega)⟩⟩, ex⟩
  rw [el, show n_l M t + 1 - a = (n_l M t - a) + 1 by omega]
  show (y_ev (y_sn (n_p M t w) t) a (n_l M t - a)).bind (y_st (y_sn (n_p M t w) t (a + (n_l M t - a)))) = some d2
  rw [y_evc (f := y_sn (n_p M t w) t) (g := y_sn M t) (fun j h1 h2 => eq _ (by omega)), hev, Option.bind_some, show a + (n_l M t - a) = n_l M t by omega]
  rw [show y_sn (n_p M t w) t (n_l M t) = w from ew]
  exact hw
/-! what steps do -/
theorem i_and15 {x : Int32} (h : 0 ≤ x.toInt) : (x &&& 15).toInt = x.toInt % 16 := by
  have e1 : x.toInt = (x.toBitVec.toNat : Int) := by
    show x.toBitVec.toInt = _
    rw [BitVec.toInt_eq_toNat_cond]
    have h2 : 0 ≤ x.toBitVec.toInt := h
    rw [BitVec.toInt_eq_toNat_cond] at h2
    split
    · rfl
    · rename_i h3
      rw [if_neg h3] at h2
      have := x.toBitVec.isLt
      omega
  have e2 : (x &&& 15).toBitVec.toNat = x.toBitVec.toNat % 16 := by
    rw [Int32.toBitVec_and, BitVec.toNat_and]
    exact Nat.and_two_pow_sub_one_eq_mod _ 4
  have e3 : (x &&& 15).toInt = ((x &&& 15).toBitVec.toNat : Int) := by
    show (x &&& 15).toBitVec.toInt = _
    rw [BitVec.toInt_eq_toNat_of_lt]
    omega
  rw [e3, e2, e1]
  omega
theorem y_stN {v : Int32} {d : Nat} (h : 0 ≤ v.toInt ∧ v.toInt ≤ 99999) (hd : d < 60) : y_st ((0 : Int32) + (16 : Int32) * v) d = some (d + 1) := by
  have a1 := i_mulL (c := (16 : Int32)) (x := v) (n := 16) rfl (by omega) (by omega)
  have a2 := i_cadd (c := (0 : Int32)) (x := (16 : Int32) * v) (n := 0) rfl (by omega) (by omega)
  have a3 := i_and15 (x := (0 : Int32) + (16 : Int32) * v) (by omega)
  have z : (0 : Int32).toInt = 0 := rfl
  have e : ((0 : Int32) + (16 : Int32) * v) &&& 15 = 0 := Int32.toInt_inj.mp (by omega)
  unfold y_st
  rw [if_pos e, if_pos hd]
theorem y_stW {v : Int32} {d : Nat} (h : 0 ≤ v.toInt ∧ v.toInt ≤ 13) (hd : d < 60) : y_st ((1 : Int32) + (16 : Int32) * v) d = some (d + 1) := by
  have hv : v = Int32.ofInt v.toInt := (Int32.ofInt_toInt v).symm
  have k : ∀ i : Fin 14, (¬ ((1 : Int32) + (16 : Int32) * Int32.ofNat i.val) &&& 15 = 0) ∧ ((1 : Int32) + (16 : Int32) * Int32.ofNat i.val) &&& 15 = 1 ∧ 0 ≤ (((1 : Int32) + (16 : Int32) * Int32.ofNat i.val) >>> 4).toInt ∧ (((1 : Int32) + (16 : Int32) * Int32.ofNat i.val) >>> 4).toInt < 14 := by decide
  have e : v = Int32.ofNat v.toInt.toNat := i_of (by omega) (by omega)
  have k1 := k ⟨v.toInt.toNat, by omega⟩
  rw [← e] at k1
  unfold y_st
  rw [if_neg k1.1, if_pos k1.2.1, if_pos ⟨k1.2.2, hd⟩]
/-- steps that join two -/
theorem y_stB {w : Int32} {d : Nat} (h : w = 2 ∨ w = 3 ∨ w = 4 ∨ w = 5 ∨ w = 6 ∨ w = 7 ∨ w = 8 ∨ w = 9 ∨ w = 10 ∨ w = 12 ∨ w = 13 ∨ w = 14) : y_st (w + (16 : Int32) * (0 : Int32)) (d + 2) = some (d + 1) := by
  have k : (¬ (w + (16 : Int32) * (0 : Int32)) &&& 15 = 0) ∧ (¬ (w + (16 : Int32) * (0 : Int32)) &&& 15 = 1) ∧ ¬ (w + (16 : Int32) * (0 : Int32)) &&& 15 = 11 := by
    rcases h with e | e | e | e | e | e | e | e | e | e | e | e <;> subst e <;> decide
  unfold y_st
  rw [if_neg k.1, if_neg k.2.1, if_neg k.2.2, if_pos (by omega)]
  rfl
theorem y_st11 {d : Nat} : y_st ((11 : Int32) + (16 : Int32) * (0 : Int32)) (d + 1) = some (d + 1) := by
  have k : (¬ ((11 : Int32) + (16 : Int32) * (0 : Int32)) &&& 15 = 0) ∧ (¬ ((11 : Int32) + (16 : Int32) * (0 : Int32)) &&& 15 = 1) ∧ ((11 : Int32) + (16 : Int32) * (0 : Int32)) &&& 15 = 11 := by decide
  unfold y_st
  rw [if_neg k.1, if_neg k.2.1, if_pos k.2.2, if_pos (by omega)]
/-! makes -/
def n_mk (M : gM) : gM := mI M 175 12 (Int32.ofNat (n_m M + 1))
theorem R_makes {p : Int32} {M : gM} (H : y_HT M) : F_X12_makes (some 175) p M = some (if n_m M = 60 then (0, n_f M 3 p) else (1, n_mk M)) := by
  have m1 := n_m1 H
  have z : (60 : Int32).toInt = 60 := rfl
  delta F_X12_makes F_X12_makes_b0
  rw [e_gI H, Option.bind_some]
  by_cases c : M.2.1 175 12 = 60
  · have := i_eq c
    rw [if_pos c, if_pos (by omega), e_gO H, Option.bind_some, R_fails H, Option.bind_some]
    dsimp only
    rw [if_pos (Or.inl rfl)]
  · have := i_ne c
    rw [if_neg c, if_neg (by omega), Option.bind_some, e_pI H, Option.bind_some, n_inc m1.1 (by omega)]
    rfl
theorem n_mk_set {M : gM} (H : y_HT M) (h : ¬ n_m M = 60) : (y_HT (n_mk M) ∧ y_Fr (2 ^ 12) M (n_mk M)) ∧ n_m (n_mk M) = n_m M + 1 := by
  have m1 := n_m1 H
  refine ⟨y_set (S := 2 ^ 12) H (i := 175) (k := 12) (v := Int32.ofNat (n_m M + 1)) (by decide) rfl rfl y_mI1 (fun j a hj => y_mI2 hj) rfl ?_ (by decide), ?_⟩
  · show y_rg (0, 60) _
    unfold y_rg
    rw [i_ofNat (by omega)]
    exact ⟨by omega, by show ((n_m M + 1 : Nat) : Int) ≤ 60; omega⟩
  · show ((n_mk M).2.1 175 12).toInt.toNat = _
    unfold n_mk
    rw [y_mI1, i_ofNat (by omega)]
    omega
theorem n_fx {S : Nat} {M M' : gM} (f : y_Fr S M M') (h : S.testBit 8 = false) : n_x M' = n_x M := by
  unfold n_x
  rw [y_fk (i := 175) (k := 8) f h]
theorem n_fs {S : Nat} {M M' : gM} (f : y_Fr S M M') (h : S.testBit 1 = false) : n_s M' = n_s M := by
  unfold n_s
  rw [y_fk (i := 175) (k := 1) f h]
theorem n_fm {S : Nat} {M M' : gM} (f : y_Fr S M M') (h : S.testBit 12 = false) : n_m M' = n_m M := by
  unfold n_m
  rw [y_fk (i := 175) (k := 12) f h]
theorem n_fo {S : Nat} {M M' : gM} (f : y_Fr S M M') (h : S.testBit 16 = false) : n_o M' = n_o M := by
  unfold n_o
  rw [y_fk (i := 175) (k := 16) f h]
theorem n_fl {S t : Nat} {M M' : gM} (f : y_Fr S M M') (h : S.testBit 43 = false) : n_l M' t = n_l M t := by
  unfold n_l
  rw [y_fa (i := 178) f (by decide) h t]
theorem n_fb {S : Nat} {M M' : gM} (f : y_Fr S M M') (h : S.testBit 41 = false) : n_b M' = n_b M := funext (fun q => y_fa (i := 176) f (by decide) h q)
theorem n_fle {S : Nat} {M M' : gM} (f : y_Fr S M M') (h : S.testBit 41 = false) (h1 : S.testBit 1 = false) : n_le M' = n_le M := by
  funext p
  unfold n_le n_L
  rw [n_fb f h, n_fs f h1]
theorem n_fsk {S : Nat} {M M' : gM} (f : y_Fr S M M') (h : S.testBit 41 = false) (h1 : S.testBit 1 = false) : n_sk M' = n_sk M := by
  funext p
  unfold n_sk n_B
  rw [n_fb f h, n_fs f h1]
/-! words -/
def n_wh (M : gM) (p : Nat) : Int32 :=
  if n_w M p 1751476594 = true then 0 else if n_w M p 499967946343 = true then 1 else if n_w M p 24947 = true then 2 else if n_w M p 491394656372 = true then 3 else if n_w M p 8319400191629685864 = true then 4 else if n_w M p 6383461 = true then 5 else if n_w M p 448311616883 = true then 6 else if n_w M p 1936682599 = true then 7 else if n_w M p 422877228660 = true then 8 else if n_w M p 1819243379 = true then 9 else if n_w M p 439854918756 = true then 10 else if n_w M p 2036687218 = true then 11 else if n_w M p 1935764837 = true then 12 else if n_w M p 461414299502 = true then 13 else -1
theorem n_sk_sk {M : gM} {p : Nat} : n_sk M (n_sk M p) = n_sk M p := n_sk_stop (by rw [n_sk_end]; decide)
theorem R_isW2 {w : Int64} {M : gM} {p : Nat} (H : y_HT M) (h : n_x M ≤ n_s M) (hp : p = n_sk M (n_x M)) : F_X12_isWord (some 175) w (n_at M p) = some (if n_w M p w = true then 1 else 0, n_at M p) := by
  subst hp
  have s1 := n_s1 H
  have k1 := n_sk_le h
  rw [R_isWord (n_atH H (by omega)) (by rw [n_at_x (by omega), n_at_s]; omega), n_at_x (by omega), n_at_sk, n_sk_sk, n_at_w, n_at_at]
theorem R_w_bind {β : Type} {w : Int64} {M : gM} {p : Nat} {f : Int32 × gM → Option β} (H : y_HT M) (h : n_x M ≤ n_s M) (hp : p = n_sk M (n_x M)) : (F_X12_isWord (some 175) w (n_at M p)).bind f = f (if n_w M p w = true then 1 else 0, n_at M p) := by
  rw [R_isW2 H h hp, Option.bind_some]
set_option maxHeartbeats 1000000 in
theorem R_wordHere {M : gM} {p : Nat} (H : y_HT M) (h : n_x M ≤ n_s M) (hp : p = n_sk M (n_x M)) : F_X12_wordHere (some 175) (n_at M p) = some (n_wh M p, n_at M p) := by
  have s1 := n_s1 H
  have k1 := n_sk_le h
  have H1 : y_HT (n_at M p) := n_atH H (by omega)
  have st : ∀ {w : Int64} {a b r : Int32} {X : Option (Int32 × gM)}, (X = some (r, n_at M p)) → (if (if n_w M p w = true then (1 : Int32) else 0) = 0 then X else some (b, n_at M p)) = some (if n_w M p w = true then b else r, n_at M p) := by
    intro w a b r X hX
    by_cases c : n_w M p w = true
    · rw [if_pos c, if_pos c, if_neg (by decide)]
    · rw [if_neg c, if_neg c, if_pos rfl, hX]
  delta F_X12_wordHere F_X12_wordHere_b0
  rw [e_gO H1, Option.bind_some, R_w_bind H h hp]
  unfold n_wh
  refine st (a := 0) ?_
  rw [e_gC H1, Option.bind_some, R_w_bind H h hp]
  refine st (a := 0) ?_
  rw [e_gC H1, Option.bind_some, R_w_bind H h hp]
  refine st (a := 0) ?_
  rw [e_gC H1, Option.bind_some, R_w_bind H h hp]
  refine st (a := 0) ?_
  rw [e_gC H1, Option.bind_some, R_w_bind H h hp]
  refine st (a := 0) ?_
  rw [e_gC H1, Option.bind_some, R_w_bind H h hp]
  refine st (a := 0) ?_
  rw [e_gC H1, Option.bind_some, R_w_bind H h hp]
  refine st (a := 0) ?_
  rw [e_gC H1, Option.bind_some, R_w_bind H h hp]
  refine st (a := 0) ?_
  rw [e_gC H1, Option.bind_some, R_w_bind H h hp]
  refine st (a := 0) ?_
  rw [e_gC H1, Option.bind_some, R_w_bind H h hp]
  refine st (a := 0) ?_
  rw [e_gC H1, Option.bind_some, R_w_bind H h hp]
  refine st (a := 0) ?_
  rw [e_gC H1, Option.bind_some, R_w_bind H h hp]
  refine st (a := 0) ?_
  rw [e_gC H1, Option.bind_some, R_w_bind H h hp]
  refine st (a := 0) ?_
  rw [e_gC H1, Option.bind_some, R_w_bind H h hp]
  refine st (a := 0) ?_
  rfl
theorem n_w_le {M : gM} {p : Nat} {w : Int64} (h : n_w M p w = true) : p < n_le M p := (of_decide_eq_true h).1
theorem n_wh_r {M : gM} {p : Nat} : (n_wh M p).toInt ≤ 13 ∧ (0 ≤ n_wh M p → p < n_le M p) := by
  unfold n_wh
  have st : ∀ {w : Int64} {b r : Int32}, (b.toInt ≤ 13) → (r.toInt ≤ 13 ∧ (0 ≤ r → p < n_le M p)) → ((if n_w M p w = true then b else r).toInt ≤ 13 ∧ (0 ≤ (if n_w M p w = true then b else r) → p < n_le M p)) := by
    intro w b r hb hr
    by_cases c : n_w M p w = true
    · rw [if_pos c]
      exact ⟨hb, fun _ => n_w_le c⟩
    · rw [if_neg c]
      exact hr
  refine st (by decide) (st (by decide) (st (by decide) (st (by decide) (st (by decide) (st (by decide) (st (by decide) (st (by decide) (st (by decide) (st (by decide) (st (by decide) (st (by decide) (st (by decide) (st (by decide) ⟨by decide, fun h => absurd h (by decide)⟩)))))))))))))
/-! value -/
theorem P_value {t a d c : Nat} {M : gM} (I : p_I t a d c M) : Ok (F_X12_value (some 175) M) (p_P p_E t a (d + 1) c M) := by
  have H := I.1.1.1
  have ht := I.1.1.2
  have hx := I.2.1
  have s1 := n_s1 H
  have k1 := n_sk_le hx.2
  obtain ⟨p, hp⟩ : ∃ p, p = n_sk M (n_x M) := ⟨_, rfl⟩
  rw [← hp] at k1
  have H1 : y_HT (n_at M p) := n_atH H (by omega)
  have I1 : p_I t a d c (n_at M p) := p_I_at I (by omega) (by omega)
  have F1 : p_F p_E t M (n_at M p) := p_F_at H (by omega) (by decide)
  have xe : (n_at M p).2.1 175 8 = Int32.ofNat p := n_at8
  have xi : (Int32.ofNat p).toInt = (p : Int) := i_ofNat (by omega)
  have x1 : n_x (n_at M p) = p := n_at_x (by omega)
  delta F_X12_value F_X12_value_b0 F_X12_value_b39
  rw [e_gO H, Option.bind_some, R_see H hx.2, Option.bind_some, ← hp]
  dsimp only
  rw [e_gI H1, Option.bind_some, Option.bind_some, e_gC H1, Option.bind_some, xe, R_isDigit H1 xi, Option.bind_some, n_at_D]
  by_cases cD : n_D M p = true
  · rw [if_pos cD, if_neg (by decide)]
    rw [R_numberHere (p := p) H1 (by rw [x1, n_at_s]; omega) (by rw [x1, n_at_sk, hp, n_sk_sk]), Option.bind_some, n_at_D, if_pos cD]
    have A1 : n_an (n_at M p) p = n_an M p := by
      unfold n_an n_v
      rw [n_at_de, n_at_b, n_at_at]
    have hlt : p < n_s M := (of_decide_eq_true cD).1
    have d1 : p < n_de M p := by
      rw [n_de_step cD]
      have := (n_de_le (M := M) (p := p + 1) (by omega)).1
      omega
    have d2 := (n_de_le (M := M) (p := p) (by omega)).2
    obtain ⟨H2, f2⟩ := n_an_set (p := p) H (by omega)
    rw [A1]
    have F2 : p_F p_E t M (n_an M p) := p_F_of f2 (by decide) (by decide) (by decide)
    by_cases cO : n_ok (n_at M p) p (0 : Int32).toInt (99999 : Int32).toInt = true
    · rw [if_pos cO]
      dsimp only
      rw [if_neg (by decide), e_gC H2, Option.bind_some, R_makes H2, Option.bind_some]
      have x2 : n_x (n_an M p) = n_de M p := by
        show ((n_an M p).2.1 175 8).toInt.toNat = _
        unfold n_an
        rw [mI_ne (Or.inr (by decide)), n_at8, i_ofNat (by omega)]
        omega
      by_cases cM : n_m (n_an M p) = 60
      · rw [if_pos cM]
        dsimp only
        rw [if_pos rfl]
        exact p_Pf H2 F2 (by decide) xi (by omega) (by decide)
      · rw [if_neg cM]
        dsimp only
        rw [if_neg (by decide)]
        obtain ⟨⟨H3, f3⟩, m3⟩ := n_mk_set H2 cM
        have I2 : p_I t a d (c + 1) (n_an M p) := p_I_of I H2 f2 (by decide) (by rw [x2]; omega) (by rw [n_fm f2 (by decide)]; exact Nat.le_refl _)
        have I3 : p_I t a d (c + 1) (n_mk (n_an M p)) := p_I_of I2 H3 f3 (by decide) ⟨by rw [n_fx f3 (by decide)]; exact I2.2.1.1, by rw [n_fx f3 (by decide)]; exact I2.2.1.2⟩ (by omega)
        have F3 : p_F p_E t M (n_mk (n_an M p)) := p_F_tr F2 (p_F_of f3 (by decide) (by decide) (by decide))
        have v3 : (n_mk (n_an M p)).2.1 175 10 = n_v M p := (mI_ne (Or.inr (by decide))).trans y_mI1
        have hm := I2.2.2.2
        have m2 := n_m1 H3
        have s3 := n_s1 H3
        rw [e_gI H3, Option.bind_some, e_gC H3, Option.bind_some, v3, R_puts H3 ht I3.1.2 (by have := I3.2.1; omega), Option.bind_some]
        obtain ⟨I4, F4, X4⟩ := p_puts (S := p_E) I3 (y_stN n_v_r (by omega)) (by omega) (by decide)
        exact p_P1 I4 (p_F_tr F3 F4) (by rw [X4, n_fx f3 (by decide), x2]; omega)
    · rw [if_neg cO]
      dsimp only
      rw [if_pos rfl]
      exact p_Pf H2 F2 (by decide) xi (by omega) (by decide)
  · rw [if_neg cD, if_pos rfl, R_wordHere H hx.2 hp, Option.bind_some]
    dsimp only
    have w1 := n_wh_r (M := M) (p := p)
    by_cases cw : 0 ≤ n_wh M p
    · have cw2 := i_le cw
      have z : (0 : Int32).toInt = 0 := rfl
      have hle := w1.2 cw
      rw [if_pos cw, e_gC H1, Option.bind_some, R_makes H1, Option.bind_some]
      by_cases cM : n_m (n_at M p) = 60
      · rw [if_pos cM]
        dsimp only
        rw [if_pos rfl]
        exact p_Pf H1 F1 (by decide) xi (by omega) (by decide)
      · rw [if_neg cM]
        dsimp only
        rw [if_neg (by decide)]
        obtain ⟨⟨H3, f3⟩, m3⟩ := n_mk_set H1 cM
        have x3 : n_x (n_mk (n_at M p)) = p := (n_fx f3 (by decide)).trans x1
        have s3 : n_s (n_mk (n_at M p)) = n_s M := (n_fs f3 (by decide)).trans n_at_s
        have l3 : n_le (n_mk (n_at M p)) p = n_le M p := (congrFun (n_fle f3 (by decide) (by decide)) p).trans n_at_le
        have I3 : p_I t a d c (n_mk (n_at M p)) := p_I_of I1 H3 f3 (by decide) ⟨by rw [n_fx f3 (by decide)]; exact I1.2.1.1, by rw [n_fx f3 (by decide)]; exact I1.2.1.2⟩ (by omega)
        have e2 := (n_le_le (M := M) (p := p) (by omega)).2
        rw [e_gC H3, Option.bind_some, R_passWord H3 (by rw [x3, s3]; omega), Option.bind_some, x3, l3]
        have I4 : p_I t a d (c + 1) (n_at (n_mk (n_at M p)) (n_le M p)) := p_I_at I3 (by have := I3.2.1.1; omega) (by rw [s3]; exact e2)
        have H4 := I4.1.1.1
        have m4 := n_m1 H4
        have mm : n_m (n_at (n_mk (n_at M p)) (n_le M p)) = n_m (n_at M p) + 1 := n_at_m.trans m3
        have s4 := n_s1 H4
        have hm := I1.2.2.2
        rw [e_gC H4, Option.bind_some, R_puts H4 ht I4.1.2 (by have := I4.2.1; omega), Option.bind_some]
        obtain ⟨I5, F5, X5⟩ := p_puts (S := p_E) I4 (y_stW (v := n_wh M p) ⟨by omega, w1.1⟩ (by omega)) (by omega) (by decide)
        exact p_P1 I5 (p_F_tr F1 (p_F_tr (p_F_of f3 (by decide) (by decide) (by decide)) (p_F_tr (p_F_at H3 (by omega) (by decide)) F5))) (by rw [X5, n_at_x (by omega)]; omega)
    · rw [if_neg cw, e_gC H1, Option.bind_some, R_fails H1, Option.bind_some]
      dsimp only
      rw [if_pos (Or.inl rfl)]
      exact p_Pf H1 F1 (by decide) xi (by omega) (by decide)
