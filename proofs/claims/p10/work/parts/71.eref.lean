/-! the reference reads as the document says: VALUES and SUMS -/
theorem n_T {M T : gM} (h1 : n_b M = n_b T) (h2 : n_s M = n_s T) : ((n_L M = n_L T ∧ n_D M = n_D T) ∧ (n_sk M = n_sk T ∧ n_le M = n_le T) ∧ n_de M = n_de T) ∧ (n_w M = n_w T ∧ n_v M = n_v T) ∧ (n_ok M = n_ok T ∧ n_c M = n_c T) ∧ n_wh M = n_wh T := by
  have eL : n_L M = n_L T := by funext p; unfold n_L; rw [h1, h2]
  have eD : n_D M = n_D T := by funext p; unfold n_D; rw [h1, h2]
  have eB : n_B M = n_B T := by funext p; unfold n_B; rw [h1, h2]
  have esk : n_sk M = n_sk T := by funext p; unfold n_sk; rw [eB, h2]
  have ele : n_le M = n_le T := by funext p; unfold n_le; rw [eL, h2]
  have ede : n_de M = n_de T := by funext p; unfold n_de; rw [eD, h2]
  have ew : n_w M = n_w T := by funext p w; unfold n_w; rw [ele, h1]
  have ev : n_v M = n_v T := by funext p; unfold n_v; rw [ede, h1]
  have eo : n_ok M = n_ok T := by funext p a b; unfold n_ok; rw [ede, ev]
  have ec : n_c M = n_c T := by funext p; unfold n_c; rw [h1, h2]
  have eh : n_wh M = n_wh T := by funext p; unfold n_wh; rw [ew]
  exact ⟨⟨⟨eL, eD⟩, ⟨esk, ele⟩, ede⟩, ⟨ew, ev⟩, ⟨eo, ec⟩, eh⟩
def e_map (n : Nat) : Nat := if n = 6 then 14 else if n = 7 then 6 else if n = 8 then 7 else if n = 9 then 8 else if n = 10 then 9 else if n = 11 then 10 else if n = 14 then 11 else n
/-- the reference's step -/
def e_r (a : Nat × Int32) : Int32 := Int32.ofNat (e_map a.1) + (16 : Int32) * a.2
def r_O (f : Nat → Int32) : List (Nat × Int32) → Prop
  | [] => True
  | a :: o => f o.length = e_r a ∧ r_O f o
theorem r_O_c {f g : Nat → Int32} : ∀ {o : List (Nat × Int32)}, (∀ q, q < o.length → g q = f q) → r_O f o → r_O g o := by
  intro o
  induction o with
  | nil => intro _ _; trivial
  | cons a o ih =>
    intro h hc
    exact ⟨(h o.length (by simp)).trans hc.1, ih (fun q hq => h q (by simp; omega)) hc.2⟩
def r_X (T : gM) (t : Nat) (M : gM) (x : sS) : Prop := (n_b M = n_b T ∧ n_s M = n_s T) ∧ n_sk T (n_x M) = x.1 ∧ (M.2.1 175 9 = 0 ∧ n_m M = x.2.1) ∧ (n_l M t = x.2.2.length ∧ r_O (y_sn M t) x.2.2)
def e_R (T : gM) (t : Nat) (r : s_R) : Int32 × gM → Prop := fun y => match r with
  | .inl e => y.1 = 0 ∧ (y.2.2.1 175 9).toInt = (e : Int)
  | .inr x => y.1 = 1 ∧ r_X T t y.2 x
theorem n_f_0 {M : gM} {k p : Int32} {q d : Nat} (h : M.2.1 175 9 = 0) (hp : p.toInt = (q : Int)) (hq : q ≤ 400) (hk : k.toInt = (d : Int)) (hd : d ≤ 7) : ((n_f M k p).2.1 175 9).toInt = ((1 + 8 * q + d : Nat) : Int) := by
  unfold n_f
  rw [if_pos h, y_mI1]
  have a1 := i_mulL (c := (8 : Int32)) (x := p) (n := 8) rfl (by omega) (by omega)
  have a2 := i_cadd (c := (1 : Int32)) (x := (8 : Int32) * p) (n := 1) rfl (by omega) (by omega)
  have a3 := i_add (x := (1 : Int32) + (8 : Int32) * p) (y := k) (by omega) (by omega)
  omega
/-- what moves the reader's place alone -/
theorem r_Xat {T : gM} {t p : Nat} {M : gM} {x : sS} {q : Nat} (X : r_X T t M x) (h : p ≤ 400) (hq : n_sk T p = q) : r_X T t (n_at M p) (q, x.2) := by
  refine ⟨⟨n_at_b.trans X.1.1, n_at_s.trans X.1.2⟩, by rw [n_at_x h]; exact hq, ⟨by rw [n_atk (by decide)]; exact X.2.2.1.1, n_at_m.trans X.2.2.1.2⟩, n_at_l.trans X.2.2.2.1, ?_⟩
  exact r_O_c (fun j _ => congrFun (n_ata (i := 177) (by decide)) _) X.2.2.2.2
theorem r_Xsee {T : gM} {t : Nat} {M : gM} {x : sS} (X : r_X T t M x) (H : y_HT M) (h : n_x M ≤ n_s M) : n_sk M (n_x M) = x.1 ∧ r_X T t (n_at M x.1) x := by
  have e := (n_T X.1.1 X.1.2).1.2.1.1
  have s1 := n_s1 H
  have hk := n_sk_le h
  have e1 : n_sk M (n_x M) = x.1 := by rw [e]; exact X.2.1
  refine ⟨e1, ?_⟩
  have := r_Xat (p := x.1) (q := x.1) X (by omega) (by rw [← X.2.1, n_sk_sk])
  exact this
/-- a step is put -/
theorem r_Xput {T : gM} {t : Nat} {M : gM} {x : sS} {w : Int32} {a : Nat × Int32} (X : r_X T t M x) (H : y_HT M) (hl : n_l M t < 400) (hw : w = e_r a) : r_X T t (n_p M t w) (s_push x a) := by
  have o : ∀ i k, i ≠ 177 → ¬ (i = 178 ∧ k = t) → (n_p M t w).2.1 i k = M.2.1 i k := fun i k h1 h2 => by unfold n_p; rw [mI_ne (by omega), mI_ne (Or.inl h1)]
  have eb : n_b (n_p M t w) = n_b M := funext (fun q => o 176 q (by decide) (by omega))
  have es : n_s (n_p M t w) = n_s M := by unfold n_s; rw [o 175 1 (by decide) (by omega)]
  have ex : n_x (n_p M t w) = n_x M := by unfold n_x; rw [o 175 8 (by decide) (by omega)]
  have em : n_m (n_p M t w) = n_m M := by unfold n_m; rw [o 175 12 (by decide) (by omega)]
  refine ⟨⟨eb.trans X.1.1, es.trans X.1.2⟩, by rw [ex]; exact X.2.1, ⟨by rw [o 175 9 (by decide) (by omega)]; exact X.2.2.1.1, em.trans X.2.2.1.2⟩, ?_, ?_, ?_⟩
  · rw [n_p_l hl, X.2.2.2.1]
    rfl
  · show (n_p M t w).2.1 177 (400 * t + x.2.2.length) = _
    unfold n_p
    rw [mI_ne (Or.inl (by decide)), ← X.2.2.2.1, y_mI1]
    exact hw
  · refine r_O_c (fun j hj => ?_) X.2.2.2.2
    show (n_p M t w).2.1 177 (400 * t + j) = M.2.1 177 (400 * t + j)
    unfold n_p
    rw [mI_ne (Or.inl (by decide)), mI_ne (Or.inr (by have := X.2.2.2.1; omega))]
theorem r_Xmk {T : gM} {t : Nat} {M : gM} {x : sS} (X : r_X T t M x) (H : y_HT M) (h : ¬ n_m M = 60) : r_X T t (n_mk M) (x.1, x.2.1 + 1, x.2.2) := by
  have o : ∀ i k, i ≠ 175 ∨ k ≠ 12 → (n_mk M).2.1 i k = M.2.1 i k := fun i k h => by unfold n_mk; rw [mI_ne h]
  have em := (n_mk_set H h).2
  refine ⟨⟨(funext (fun q => o 176 q (Or.inl (by decide)))).trans X.1.1, ?_⟩, ?_, ⟨by rw [o _ _ (Or.inr (by decide))]; exact X.2.2.1.1, by rw [em, X.2.2.1.2]⟩, ?_, r_O_c (fun j _ => o 177 _ (Or.inl (by decide))) X.2.2.2.2⟩
  · rw [← X.1.2]
    unfold n_s
    rw [o _ _ (Or.inr (by decide))]
  · have : n_x (n_mk M) = n_x M := by unfold n_x; rw [o _ _ (Or.inr (by decide))]
    rw [this]
    exact X.2.1
  · rw [← X.2.2.2.1]
    unfold n_l
    rw [o _ _ (Or.inl (by decide))]
/-! words of VALUES -/
theorem k_letter {T : gM} {p : Nat} (h : n_L T p = true) : k_kind T p = k_w T p := by
  have h1 : p < n_s T := (of_decide_eq_true h).1
  unfold k_kind
  rw [if_neg (by omega), if_pos h]
theorem n_w_L {T : gM} {p : Nat} {w : Int64} (h : n_w T p w = true) : n_L T p = true := by
  have h1 := n_w_le h
  by_cases c : n_L T p = true
  · exact c
  · rw [n_le_stop c] at h1
    omega
theorem k_nl_r {T : gM} {p : Nat} (h : ¬ n_L T p = true) : k_kind T p ≤ 259 := by
  unfold k_kind
  by_cases c0 : n_s T ≤ p
  · rw [if_pos c0]; omega
  · rw [if_neg c0, if_neg h]
    by_cases c2 : n_D T p = true
    · rw [if_pos c2]; omega
    · rw [if_neg c2]
      by_cases c3 : k_two T p = true
      · rw [if_pos c3]; split <;> omega
      · rw [if_neg c3]
        have : n_ca T p = n_b T p &&& 255 := by
          unfold n_ca
          rw [if_pos (by omega)]
        rw [this]
        have := (i_andc (a := n_b T p) (m := (255 : Int32)) (n := 255) rfl (by decide)).2
        omega
theorem w_iff {T : gM} {p i : Nat} {w : Int64} (hi : i < 22) (hw : w.toBitVec.toNat = w_pk (w_all.getD i [])) : n_w T p w = true ↔ k_kind T p = 261 + (i : Int) := by
  by_cases c : n_L T p = true
  · rw [k_letter c]
    exact w_num hi hw
  · constructor
    · intro h
      exact absurd (n_w_L h) c
    · intro h
      have := k_nl_r c
      omega
theorem n_wh_k {T : gM} {p : Nat} : (0 ≤ n_wh T p ↔ 261 ≤ k_kind T p ∧ k_kind T p ≤ 274) ∧ (261 ≤ k_kind T p ∧ k_kind T p ≤ 274 → n_wh T p = Int32.ofInt (k_kind T p - 261)) := by
  have g := fun (i : Nat) (w : Int64) (hi : i < 22) (hw : w.toBitVec.toNat = w_pk (w_all.getD i [])) => w_iff (T := T) (p := p) hi hw
  have st : ∀ {w : Int64} {r : Int32} (i : Nat), i < 14 → w.toBitVec.toNat = w_pk (w_all.getD i []) → (k_kind T p ≠ 261 + (i : Int) → ((0 ≤ r ↔ 261 ≤ k_kind T p ∧ k_kind T p ≤ 274) ∧ (261 ≤ k_kind T p ∧ k_kind T p ≤ 274 → r = Int32.ofInt (k_kind T p - 261)))) → ((0 ≤ (if n_w T p w = true then Int32.ofNat i else r) ↔ 261 ≤ k_kind T p ∧ k_kind T p ≤ 274) ∧ (261 ≤ k_kind T p ∧ k_kind T p ≤ 274 → (if n_w T p w = true then Int32.ofNat i else r) = Int32.ofInt (k_kind T p - 261))) := by
    intro w r i hi hw h
    have gi := g i w (by omega) hw
    by_cases c : n_w T p w = true
    · have e := gi.mp c
      rw [if_pos c]
      refine ⟨⟨fun _ => by omega, fun _ => Int32.le_iff_toInt_le.mpr (by rw [i_ofNat (by omega)]; show (0 : Int) ≤ _; omega)⟩, fun _ => ?_⟩
      rw [show k_kind T p - 261 = (i : Int) by omega]
      exact (i_of (x := Int32.ofInt (i : Int)) (by rw [Int32.toInt_ofInt_of_le (by omega) (by omega)]) (by omega)).symm
    · rw [if_neg c]
      exact h (fun e => c (gi.mpr e))
  unfold n_wh
  refine st 0 (by decide) (by decide) (fun e0 => st 1 (by decide) (by decide) (fun e1 => st 2 (by decide) (by decide) (fun e2 => st 3 (by decide) (by decide) (fun e3 => st 4 (by decide) (by decide) (fun e4 => st 5 (by decide) (by decide) (fun e5 => st 6 (by decide) (by decide) (fun e6 => st 7 (by decide) (by decide) (fun e7 => st 8 (by decide) (by decide) (fun e8 => st 9 (by decide) (by decide) (fun e9 => st 10 (by decide) (by decide) (fun e10 => st 11 (by decide) (by decide) (fun e11 => st 12 (by decide) (by decide) (fun e12 => st 13 (by decide) (by decide) (fun e13 => ?_))))))))))))))
  have z : ¬ (261 ≤ k_kind T p ∧ k_kind T p ≤ 274) := by omega
  exact ⟨⟨fun h => absurd h (by decide), fun h => absurd h z⟩, fun h => absurd h z⟩
theorem k_go_L {T : gM} {p : Nat} (h : n_L T p = true) : k_go T p = n_sk T (n_le T p) := by
  have h1 : p < n_s T := (of_decide_eq_true h).1
  unfold k_go k_nx k_end
  rw [if_pos h1, if_pos h]
theorem E_value {T : gM} {t a d c : Nat} {M : gM} {x : sS} (I : p_I t a d c M) (X : r_X T t M x) : Ok (F_X12_value (some 175) M) (e_R T t (s_val T x)) := by
  have H := I.1.1.1
  have ht := I.1.1.2
  have hx := I.2.1
  have s1 := n_s1 H
  have k1 := n_sk_le hx.2
  obtain ⟨p, hp⟩ : ∃ p, p = n_sk M (n_x M) := ⟨_, rfl⟩
  obtain ⟨ex, X1⟩ := r_Xsee X H hx.2
  have px : p = x.1 := hp.trans ex
  rw [← px] at X1
  rw [← hp] at k1
  obtain ⟨⟨⟨eL, eD⟩, ⟨esk, ele⟩, ede⟩, ⟨ew, ev⟩, ⟨eo, ec⟩, eh⟩ := n_T X.1.1 X.1.2
  have H1 : y_HT (n_at M p) := n_atH H (by omega)
  have I1 : p_I t a d c (n_at M p) := p_I_at I (by omega) (by omega)
  have xe : (n_at M p).2.1 175 8 = Int32.ofNat p := n_at8
  have xi : (Int32.ofNat p).toInt = (p : Int) := i_ofNat (by omega)
  have x1 : n_x (n_at M p) = p := n_at_x (by omega)
  have w0 : (n_at M p).2.1 175 9 = 0 := X1.2.2.1.1
  delta F_X12_value F_X12_value_b0 F_X12_value_b39
  rw [e_gO H, Option.bind_some, R_see H hx.2, Option.bind_some, ← hp]
  dsimp only
  rw [e_gI H1, Option.bind_some, Option.bind_some, e_gC H1, Option.bind_some, xe, R_isDigit H1 xi, Option.bind_some, n_at_D]
  unfold s_val
  rw [← px]
  by_cases cD : n_D M p = true
  · rw [if_pos cD, if_neg (by decide), if_pos (show n_D T p = true by rw [← eD]; exact cD)]
    rw [R_numberHere (p := p) H1 (by rw [x1, n_at_s]; omega) (by rw [x1, n_at_sk, hp, n_sk_sk]), Option.bind_some, n_at_D, if_pos cD]
    have A1 : n_an (n_at M p) p = n_an M p := by
      unfold n_an n_v
      rw [n_at_de, n_at_b, n_at_at]
    have A2 : n_ok (n_at M p) p (0 : Int32).toInt (99999 : Int32).toInt = n_ok T p 0 99999 := by
      rw [← eo]
      unfold n_ok n_v
      rw [n_at_de, n_at_b]
      rfl
    have hlt : p < n_s M := (of_decide_eq_true cD).1
    have d2 := (n_de_le (M := M) (p := p) (by omega)).2
    have d1 : p < n_de M p := by
      rw [n_de_step cD]
      have := (n_de_le (M := M) (p := p + 1) (by omega)).1
      omega
    obtain ⟨H2, f2⟩ := n_an_set (p := p) H (by omega)
    rw [A1, A2]
    have x2 : n_x (n_an M p) = n_de M p := by
      show ((n_an M p).2.1 175 8).toInt.toNat = _
      unfold n_an
      rw [mI_ne (Or.inr (by decide)), n_at8, i_ofNat (by omega)]
      omega
    have kgo : n_sk T (n_de M p) = k_go T p := by rw [ede]; exact (z_no_s (by rw [← eD]; exact cD)).symm
    have X2 : r_X T t (n_an M p) (k_go T p, x.2) := by
      have Xa : r_X T t (n_at M (n_de M p)) (k_go T p, x.2) := r_Xat X (by omega) kgo
      have o : ∀ i k, i ≠ 175 ∨ k ≠ 10 → (n_an M p).2.1 i k = (n_at M (n_de M p)).2.1 i k := fun i k h => by unfold n_an; rw [mI_ne h]
      refine ⟨⟨(funext (fun q => o 176 q (Or.inl (by decide)))).trans Xa.1.1, ?_⟩, ?_, ⟨by rw [o _ _ (Or.inr (by decide))]; exact Xa.2.2.1.1, ?_⟩, ?_, r_O_c (fun j _ => o 177 _ (Or.inl (by decide))) Xa.2.2.2.2⟩
      · rw [← Xa.1.2]; unfold n_s; rw [o _ _ (Or.inr (by decide))]
      · rw [x2]; exact kgo
      · rw [← Xa.2.2.1.2]; unfold n_m; rw [o _ _ (Or.inr (by decide))]
      · rw [← Xa.2.2.2.1]; unfold n_l; rw [o _ _ (Or.inl (by decide))]
    by_cases cO : n_ok T p 0 99999 = true
    · rw [if_pos cO, if_pos cO]
      dsimp only
      rw [if_neg (by decide), e_gC H2, Option.bind_some, R_makes H2, Option.bind_some]
      have em : n_m (n_an M p) = x.2.1 := X2.2.2.1.2
      by_cases cM : x.2.1 = 60
      · rw [if_pos (show n_m (n_an M p) = 60 from em.trans cM), if_pos cM]
        dsimp only
        rw [if_pos rfl]
        exact Ok_s ⟨rfl, n_f_0 X2.2.2.1.1 xi (by omega) rfl (by decide)⟩
      · have cM' : ¬ n_m (n_an M p) = 60 := by rw [em]; exact cM
        rw [if_neg cM', if_neg cM]
        dsimp only
        rw [if_neg (by decide)]
        obtain ⟨⟨H3, f3⟩, m3⟩ := n_mk_set H2 cM'
        have X3 := r_Xmk X2 H2 cM'
        have v3 : (n_mk (n_an M p)).2.1 175 10 = n_v M p := (mI_ne (Or.inr (by decide))).trans y_mI1
        have l3 : n_l (n_mk (n_an M p)) t < 400 := by
          have a1 := n_fl (t := t) f2 (by decide)
          have a2 := n_fl (t := t) f3 (by decide)
          omega
        have t3 : ((n_mk (n_an M p)).2.1 175 11).toInt = (t : Int) := by rw [y_fk (i := 175) (k := 11) f3 (by decide), y_fk (i := 175) (k := 11) f2 (by decide)]; exact I.1.2
        rw [e_gI H3, Option.bind_some, e_gC H3, Option.bind_some, v3, R_puts H3 ht t3 l3, Option.bind_some]
        exact Ok_s ⟨rfl, r_Xput (a := (0, n_v T p)) X3 H3 l3 (by rw [ev]; rfl)⟩
    · rw [if_neg cO, if_neg cO]
      dsimp only
      rw [if_pos rfl]
      exact Ok_s ⟨rfl, n_f_0 X2.2.2.1.1 xi (by omega) rfl (by decide)⟩
  · rw [if_neg cD, if_pos rfl, R_wordHere H hx.2 hp, Option.bind_some, if_neg (show ¬ n_D T p = true by rw [← eD]; exact cD)]
    dsimp only
    have w1 := n_wh_r (M := M) (p := p)
    have wk := n_wh_k (T := T) (p := p)
    by_cases cw : 0 ≤ n_wh M p
    · have cT : 261 ≤ k_kind T p ∧ k_kind T p ≤ 274 := wk.1.mp (by rw [← eh]; exact cw)
      have hle := w1.2 cw
      rw [if_pos cw, if_pos cT, e_gC H1, Option.bind_some, R_makes H1, Option.bind_some]
      have em : n_m (n_at M p) = x.2.1 := X1.2.2.1.2
      by_cases cM : x.2.1 = 60
      · rw [if_pos (show n_m (n_at M p) = 60 from em.trans cM), if_pos cM]
        dsimp only
        rw [if_pos rfl]
        exact Ok_s ⟨rfl, n_f_0 w0 xi (by omega) rfl (by decide)⟩
      · have cM' : ¬ n_m (n_at M p) = 60 := by rw [em]; exact cM
        rw [if_neg cM', if_neg cM]
        dsimp only
        rw [if_neg (by decide)]
        obtain ⟨⟨H3, f3⟩, m3⟩ := n_mk_set H1 cM'
        have X3 := r_Xmk X1 H1 cM'
        have x3 : n_x (n_mk (n_at M p)) = p := (n_fx f3 (by decide)).trans x1
        have s3 : n_s (n_mk (n_at M p)) = n_s M := (n_fs f3 (by decide)).trans n_at_s
        have l3 : n_le (n_mk (n_at M p)) p = n_le M p := (congrFun (n_fle f3 (by decide) (by decide)) p).trans n_at_le
        have e2 := (n_le_le (M := M) (p := p) (by omega)).2
        have hL : n_L T p = true := by
          by_cases c9 : n_L T p = true
          · exact c9
          · have := k_nl_r c9
            omega
        rw [e_gC H3, Option.bind_some, R_passWord H3 (by rw [x3, s3]; omega), Option.bind_some, x3, l3]
        have X4 : r_X T t (n_at (n_mk (n_at M p)) (n_le M p)) (k_go T p, x.2.1 + 1, x.2.2) := r_Xat X3 (by omega) (by rw [ele]; exact (k_go_L hL).symm)
        have H4 : y_HT (n_at (n_mk (n_at M p)) (n_le M p)) := n_atH H3 (by omega)
        have l4 : n_l (n_at (n_mk (n_at M p)) (n_le M p)) t < 400 := by
          rw [n_at_l]
          have a2 := n_fl (t := t) f3 (by decide)
          have a3 : n_l (n_at M p) t = n_l M t := n_at_l
          omega
        have t4 : ((n_at (n_mk (n_at M p)) (n_le M p)).2.1 175 11).toInt = (t : Int) := by rw [n_atk (by decide), y_fk (i := 175) (k := 11) f3 (by decide), n_atk (by decide)]; exact I.1.2
        rw [e_gC H4, Option.bind_some, R_puts H4 ht t4 l4, Option.bind_some]
        exact Ok_s ⟨rfl, r_Xput (a := (1, Int32.ofInt (k_kind T p - 261))) X4 H4 l4 (by rw [eh, wk.2 cT]; rfl)⟩
    · rw [if_neg cw, if_neg (show ¬ (261 ≤ k_kind T p ∧ k_kind T p ≤ 274) from fun h => cw (by rw [eh]; exact wk.1.mpr h)), e_gC H1, Option.bind_some, R_fails H1, Option.bind_some]
      dsimp only
      rw [if_pos (Or.inl rfl)]
      exact Ok_s ⟨rfl, n_f_0 w0 xi (by omega) rfl (by decide)⟩
