/-! clauses and the whole text, by the class -/
def s_cl (T : gM) (cl : Nat) (x : sS) : Nat ⊕ (sS × (Nat × Nat × Nat)) :=
  if k_kind T x.1 ≠ 278 then .inl (1 + 8 * x.1 + 0) else if 12 < cl then .inl (1 + 8 * x.1 + 4) else
    match s_sum T (k_go T x.1, x.2) with
    | .inl e => .inl e
    | .inr y => if k_kind T y.1 = 279 then (match s_J T 0 0 (k_go T y.1, y.2) with
        | .inl e => .inl e
        | .inr z => .inr (z, (x.2.2.length, y.2.2.length, z.2.2.length))) else .inr (y, (x.2.2.length, y.2.2.length, y.2.2.length))
def s_tl (T : gM) : Nat → Nat → sS → List (Nat × Nat × Nat) → Nat ⊕ (sS × List (Nat × Nat × Nat))
  | 0, _, _, _ => .inl 0
  | n + 1, cl, x, ms => match s_cl T cl x with
    | .inl e => .inl e
    | .inr (y, m) => if k_kind T y.1 = 256 then .inr (y, m :: ms) else if k_kind T y.1 = 59 then s_tl T n (cl + 1) (k_go T y.1, y.2) (m :: ms) else .inl (1 + 8 * y.1 + 0)
/-- a text read as a RULE -/
def s_text (T : gM) : Nat ⊕ (sS × List (Nat × Nat × Nat)) := s_tl T 14 1 (n_sk T 0, 0, []) []
/-- marks -/
def c_K (f : Nat → Int32) : List (Nat × Nat × Nat) → Prop
  | [] => True
  | m :: ms => (((f (3 * ms.length)).toInt = (m.1 : Int) ∧ (f (3 * ms.length + 1)).toInt = (m.2.1 : Int)) ∧ (f (3 * ms.length + 2)).toInt = (m.2.2 : Int)) ∧ c_K f ms
theorem c_K_c {f g : Nat → Int32} : ∀ {ms : List (Nat × Nat × Nat)}, (∀ q, q < 3 * ms.length → g q = f q) → c_K f ms → c_K g ms := by
  intro ms
  induction ms with
  | nil => intro _ _; trivial
  | cons m ms ih =>
    intro h hc
    have hl : (m :: ms).length = ms.length + 1 := rfl
    obtain ⟨⟨⟨h1, h2⟩, h3⟩, h4⟩ := hc
    refine ⟨⟨⟨?_, ?_⟩, ?_⟩, ih (fun q hq => h q (by omega)) h4⟩
    · rw [h _ (by omega)]; exact h1
    · rw [h _ (by omega)]; exact h2
    · rw [h _ (by omega)]; exact h3
/-- a mark is made -/
theorem C_mark {M : gM} {n l : Nat} (L : z_L M) (h4 : (M.2.1 148 4).toInt = (n : Int)) (h3 : (M.2.1 148 3).toInt = (l : Int)) (hn : n < 36) : F_X7_mark (some 148) M = some (mI (mI M 150 n (M.2.1 148 3)) 148 4 (Int32.ofNat (n + 1))) := by
  obtain ⟨⟨⟨k1, k2⟩, k3⟩, ⟨⟨r0, r1⟩, r2⟩⟩ := z_148 L
  have i36 : (Int32.ofNat 36).toInt = 36 := rfl
  delta F_X7_mark F_X7_mark_b0
  rw [t_gI k1, Option.bind_some, t_gR k1 r2, Option.bind_some, t_aN k3 (by decide), Option.bind_some, if_neg (fun z => by have := i_le z; omega), Option.bind_some, Option.bind_some, t_gI k1, Option.bind_some, t_sI k3 (by omega) (by omega), Option.bind_some, i_cl h4]
  have k1' : g_k (mI M 150 n (M.2.1 148 3)) 148 = (7, 0) := k1
  have e4 : (mI M 150 n (M.2.1 148 3)).2.1 148 4 = M.2.1 148 4 := mI_ne (Or.inl (by decide))
  rw [t_gI k1', Option.bind_some, t_pI k1', Option.bind_some, e4, n_inc h4 (by omega)]
theorem C_mark36 {M : gM} (L : z_L M) (h4 : (M.2.1 148 4).toInt = 36) : F_X7_mark (some 148) M = some M := by
  obtain ⟨⟨⟨k1, k2⟩, k3⟩, ⟨⟨r0, r1⟩, r2⟩⟩ := z_148 L
  have i36 : (Int32.ofNat 36).toInt = 36 := rfl
  delta F_X7_mark F_X7_mark_b0
  rw [t_gI k1, Option.bind_some, t_gR k1 r2, Option.bind_some, t_aN k3 (by decide), Option.bind_some, if_pos (Int32.le_iff_toInt_le.mpr (by omega))]
/-- only marks changed -/
theorem C_mark_o {M : gM} {n : Nat} {v w : Int32} : ∀ i k, ¬ (i = 148 ∧ k = 4) → i ≠ 150 → (mI (mI M 150 n v) 148 4 w).2.1 i k = M.2.1 i k := fun i k h1 h2 => by rw [mI_ne (by omega), mI_ne (Or.inl h2)]
theorem C_markX {T M : gM} {x : sS} {c n : Nat} (X : c_X T M x c) (h4 : (M.2.1 148 4).toInt = (n : Int)) (hn : n < 36) : ∃ M', F_X7_mark (some 148) M = some M' ∧ (z_Fr M M' ∧ c_X T M' x c) ∧ (M'.2.1 148 4).toInt = ((n + 1 : Nat) : Int) ∧ (M'.2.1 150 n).toInt = (x.2.2.length : Int) ∧ ∀ q, q ≠ n → M'.2.1 150 q = M.2.1 150 q := by
  obtain ⟨⟨C, f0⟩, ⟨v1, v2⟩, ⟨l1, l2⟩, hc⟩ := X
  refine ⟨_, C_mark (z_CL C) h4 l1 hn, ⟨z_tr (z_up (by unfold z_W; omega)) (z_up (by unfold z_W; omega)), ?_⟩, ?_, ?_, fun q hq => ?_⟩
  · have o := C_mark_o (M := M) (n := n) (v := M.2.1 148 3) (w := Int32.ofNat (n + 1))
    refine ⟨⟨z_Cmi (z_Cmi C (by unfold z_W; omega) (Or.inr (Or.inr (Or.inr rfl)))) (by unfold z_W; omega) (Or.inr (Or.inl rfl)), by rw [o 131 7 (by omega) (by omega)]; exact f0⟩, ⟨by rw [o 148 5 (by omega) (by omega)]; exact v1, v2⟩, ⟨by rw [o 148 3 (by omega) (by omega)]; exact l1, c_O_c (fun q _ => o 149 q (by omega) (by omega)) l2⟩, hc⟩
  · rw [y_mI1, i_ofNat (by omega)]
  · rw [mI_ne (Or.inl (by decide)), y_mI1]
    exact l1
  · rw [mI_ne (Or.inl (by decide)), mI_ne (Or.inr hq)]
theorem C_markY {T M : gM} {e n : Nat} (Y : c_Y T M e) (h4 : (M.2.1 148 4).toInt = (n : Int)) (hn : n ≤ 36) : ∃ M', F_X7_mark (some 148) M = some M' ∧ c_Y T M' e ∧ ∃ n', (M'.2.1 148 4).toInt = ((n' : Nat) : Int) ∧ n' ≤ 36 := by
  obtain ⟨⟨p, C⟩, f0, he, l1, l2⟩ := Y
  rcases Nat.lt_or_ge n 36 with h | h
  · obtain ⟨l, hl⟩ : ∃ l : Nat, (M.2.1 148 3).toInt = (l : Int) := ⟨(M.2.1 148 3).toInt.toNat, by omega⟩
    have o := C_mark_o (M := M) (n := n) (v := M.2.1 148 3) (w := Int32.ofNat (n + 1))
    refine ⟨_, C_mark (z_CL C) h4 hl h, ⟨⟨p, z_Cmi (z_Cmi C (by unfold z_W; omega) (Or.inr (Or.inr (Or.inr rfl)))) (by unfold z_W; omega) (Or.inr (Or.inl rfl))⟩, by rw [o 131 7 (by omega) (by omega)]; exact f0, he, by rw [o 148 3 (by omega) (by omega)]; exact ⟨l1, l2⟩⟩, n + 1, ?_, by omega⟩
    rw [y_mI1, i_ofNat (by omega)]
  · have : n = 36 := by omega
    subst this
    exact ⟨M, C_mark36 (z_CL C) h4, ⟨⟨p, C⟩, f0, he, l1, l2⟩, 36, h4, by omega⟩
theorem C_mark_fr {M M' : gM} (L : z_L M) (e : F_X7_mark (some 148) M = some M') : z_Fr M M' := by
  obtain ⟨⟨⟨k1, k2⟩, k3⟩, ⟨⟨r0, r1⟩, r2⟩⟩ := z_148 L
  delta F_X7_mark F_X7_mark_b0 at e
  rw [t_gI k1, Option.bind_some, t_gR k1 r2, Option.bind_some, t_aN k3 (by decide), Option.bind_some] at e
  by_cases c : Int32.ofNat 36 ≤ M.2.1 148 4
  · rw [if_pos c] at e
    cases e
    exact z_rf
  · rw [if_neg c, Option.bind_some, Option.bind_some, t_gI k1, Option.bind_some] at e
    obtain ⟨M7, e7, e⟩ := g_bd e
    unfold sI at e7
    rw [Option.bind_some] at e7
    obtain ⟨_, e7⟩ := g_if2 e7
    cases e7
    have k1' : g_k (mI M 150 (M.2.1 148 4).toNatClampNeg (M.2.1 148 3)) 148 = (7, 0) := k1
    rw [t_gI k1', Option.bind_some, t_pI k1', Option.bind_some] at e
    cases e
    exact z_tr (z_up (by unfold z_W; omega)) (z_up (by unfold z_W; omega))
/-- the class between clauses -/
def c_Z (T M : gM) (x : sS) (ms : List (Nat × Nat × Nat)) : Prop := c_X T M x 0 ∧ (M.2.1 148 4).toInt = ((3 * ms.length : Nat) : Int) ∧ c_K (M.2.1 150) ms
def c_V (T M : gM) (e : Nat) : Prop := c_Y T M e ∧ ∃ n : Nat, (M.2.1 148 4).toInt = (n : Int) ∧ n ≤ 36
def c_Q (T : gM) (r : Nat ⊕ (sS × (Nat × Nat × Nat))) (ms : List (Nat × Nat × Nat)) (M' : gM) : Prop := match r with
  | .inl e => c_V T M' e
  | .inr (y, m) => c_Z T M' y (m :: ms)
theorem C_readClause {T M : gM} {x : sS} {ms : List (Nat × Nat × Nat)} {l1 : Int32} {cl : Nat} (Z : c_Z T M x ms) (h1 : l1.toInt = (cl : Int)) (hcl : cl = ms.length + 1) (hc13 : cl ≤ 13) : Ok (F_X7_readClause (some 148) l1 M) (fun M' => z_Fr M M' ∧ c_Q T (s_cl T cl x) ms M') := by
  obtain ⟨X, h4, hK⟩ := Z
  have C := X.1.1
  have f0 := X.1.2
  have hsz := z_Cs C
  obtain ⟨⟨⟨k1, k2⟩, _⟩, ⟨⟨r0, r1⟩, _⟩⟩ := z_148 (z_CL C)
  have k9 := z_k131 C
  have z278 : (278 : Int32).toInt = 278 := rfl
  have z279 : (279 : Int32).toInt = 279 := rfl
  have z12 : (12 : Int32).toInt = 12 := rfl
  delta F_X7_readClause F_X7_readClause_b0
  rw [t_gR k1 r0, Option.bind_some, t_gO k9, Option.bind_some]
  refine Ok_b (C_kind C) (fun v3 h3 => ?_)
  have bad : ∀ {l : Int32} {d : Nat}, l.toInt = (d : Int) → d ≤ 7 → Ok ((gO 9 M (some 131)).bind fun i26 => (F_X9_place (some i26) M).bind fun v27 => (gO 9 M (some 131)).bind fun i28 => (F_X9_blame (some i28) v27 l M).bind fun M29 => some M29) (fun M' => z_Fr M M' ∧ c_V T M' (1 + 8 * x.1 + d)) := by
    intro l d hl hd
    rw [t_gO k9, Option.bind_some]
    refine Ok_b (C_place C) (fun v8 h8 => ?_)
    rw [Option.bind_some, C_blame k9, Option.bind_some]
    obtain ⟨c1, c2⟩ := n_bl_r (l1 := v8) (l2 := l) C
    have e0 := n_bl_0 (M := M) (l1 := v8) (l2 := l) (q := x.1) (d := d) f0 h8 (by omega) hl hd
    refine Ok_s ⟨c2.1, c_Y57 X (z_57b c2) c1 e0 (by omega), 3 * ms.length, by rw [c2.2 148 4 (by omega)]; exact h4, by omega⟩
  unfold s_cl
  by_cases c278 : k_kind T x.1 = 278
  · rw [if_pos (Int32.toInt_inj.mp (by rw [h3, z278]; exact c278)), if_neg (not_not_intro c278)]
    have hlt := k_kind_lt (T := T) (p := x.1) (by omega)
    have kg := k_go_r hlt
    by_cases c12 : l1 ≤ 12
    · have := i_le c12
      rw [if_pos c12, if_neg (by omega), Option.bind_some, t_gO k9, Option.bind_some]
      refine Ok_b (C_next C) (fun M6 z6 => ?_)
      have X6 : c_X T M6 (k_go T x.1, x.2) 0 := c_X57 X (z_57a z6.2) z6.1 (by rw [z6.2.2 131 7 (by omega)]; exact f0) (by have := X.2.2.2; omega)
      have h46 : (M6.2.1 148 4).toInt = ((3 * ms.length : Nat) : Int) := by rw [z6.2.2 148 4 (by omega)]; exact h4
      have K6 : c_K (M6.2.1 150) ms := c_K_c (fun q _ => z6.2.2 150 q (by omega)) hK
      rw [t_gO (z_148 (z_CL z6.1)).1.1.1, Option.bind_some]
      obtain ⟨M8, e8, ⟨f8, X8⟩, h48, hm8, ho8⟩ := C_markX X6 h46 (by omega)
      rw [e8, Option.bind_some, t_gC (z_148 (z_CL X8.1.1)).1.1.1, Option.bind_some]
      have K8 : c_K (M8.2.1 150) ms := c_K_c (fun q hq => ho8 q (by omega)) K6
      have F8 := z_tr z6.2.1 f8
      refine Ok_b ((C_rec (T := T) 60).1 2 0 0 (l1 := 2) (l2 := 0) (by decide) (by decide) (by decide) rfl rfl X8) (fun M10 q10 => ?_)
      obtain ⟨f10, r10⟩ := q10
      have es : s_J T 2 0 (k_go T x.1, x.2) = s_sum T (k_go T x.1, x.2) := rfl
      rw [es] at r10
      have h410 : (M10.2.1 148 4).toInt = ((3 * ms.length + 1 : Nat) : Int) := by rw [f10.2.2]; exact h48
      have F10 := z_tr F8 f10.1
      cases hit : s_sum T (k_go T x.1, x.2) with
      | inl e =>
        rw [hit] at r10
        have Y : c_Y T M10 e := r10
        obtain ⟨p10, C10⟩ := Y.1
        rw [t_gC (z_148 (z_CL C10)).1.1.1, Option.bind_some]
        obtain ⟨M12, e12, Y12, n12, h412, hn12⟩ := C_markY Y h410 (by omega)
        have f12 := C_mark_fr (z_CL C10) e12
        rw [e12, Option.bind_some]
        obtain ⟨p12, C12⟩ := Y12.1
        obtain ⟨⟨⟨k1, k2⟩, _⟩, ⟨⟨r0, r1⟩, _⟩⟩ := z_148 (z_CL C12)
        have k9 := z_k131 C12
        rw [t_gR k1 r0, Option.bind_some, t_gO k9, Option.bind_some, C_faulty k9, Option.bind_some, if_neg (c_Yn Y12), if_neg (by decide)]
        delta F_X7_readClause_b108
        obtain ⟨M13, e13, Y13, n13, h413, hn13⟩ := C_markY Y12 h412 hn12
        have f13 := C_mark_fr (z_CL C12) e13
        rw [t_gO k1, Option.bind_some, e13, Option.bind_some]
        exact Ok_s ⟨z_tr F10 (z_tr f12 f13), Y13, n13, h413, hn13⟩
      | inr y =>
        rw [hit] at r10
        obtain ⟨X10, hp10⟩ := r10
        have C10 := X10.1.1
        have K10 : c_K (M10.2.1 150) ms := by rw [f10.2.1]; exact K8
        have hm10 : (M10.2.1 150 (3 * ms.length)).toInt = (x.2.2.length : Int) := by rw [f10.2.1]; exact hm8
        rw [t_gC (z_148 (z_CL C10)).1.1.1, Option.bind_some]
        obtain ⟨M12, e12, ⟨f12, X12⟩, h412, hm12, ho12⟩ := C_markX X10 h410 (by omega)
        have K12 : c_K (M12.2.1 150) ms := c_K_c (fun q hq => ho12 q (by omega)) K10
        have hm120 : (M12.2.1 150 (3 * ms.length)).toInt = (x.2.2.length : Int) := by rw [ho12 _ (by omega)]; exact hm10
        have F12 := z_tr F10 f12
        rw [e12, Option.bind_some]
        have C12 := X12.1.1
        obtain ⟨⟨⟨k1, k2⟩, _⟩, ⟨⟨r0, r1⟩, _⟩⟩ := z_148 (z_CL C12)
        have k9 := z_k131 C12
        rw [t_gR k1 r0, Option.bind_some, t_gO k9, Option.bind_some, C_faulty k9, Option.bind_some, if_pos X12.1.2, if_pos rfl, Option.bind_some, t_gO k9, Option.bind_some]
        refine Ok_b (C_kind C12) (fun v18 h18 => ?_)
        dsimp only
        by_cases c279 : k_kind T y.1 = 279
        · have kg2 := k_go_r (k_kind_lt (T := T) (p := y.1) (by omega))
          rw [if_pos (Int32.toInt_inj.mp (by rw [h18, z279]; exact c279)), if_pos c279, Option.bind_some, t_gO k9, Option.bind_some]
          refine Ok_b (C_next C12) (fun M21 z21 => ?_)
          have X21 : c_X T M21 (k_go T y.1, y.2) 0 := c_X57 X12 (z_57a z21.2) z21.1 (by rw [z21.2.2 131 7 (by omega)]; exact X12.1.2) (by have := X12.2.2.2; omega)
          rw [t_gC (z_148 (z_CL z21.1)).1.1.1, Option.bind_some]
          refine Ok_b ((C_rec (T := T) 60).1 0 0 0 (l1 := 0) (l2 := 0) (by decide) (by decide) (by decide) rfl rfl X21) (fun M23 q23 => ?_)
          obtain ⟨f23, r23⟩ := q23
          have h423 : (M23.2.1 148 4).toInt = ((3 * ms.length + 1 + 1 : Nat) : Int) := by rw [f23.2.2, z21.2.2 148 4 (by omega)]; exact h412
          have F23 := z_tr F12 (z_tr z21.2.1 f23.1)
          have m150 : M23.2.1 150 = M12.2.1 150 := f23.2.1.trans (funext (fun k => z21.2.2 150 k (by omega)))
          delta F_X7_readClause_b108
          cases hit2 : s_J T 0 0 (k_go T y.1, y.2) with
          | inl e =>
            rw [hit2] at r23
            have Y : c_Y T M23 e := r23
            obtain ⟨p23, C23⟩ := Y.1
            obtain ⟨M13, e13, Y13, n13, h413, hn13⟩ := C_markY Y h423 (by omega)
            have f13 := C_mark_fr (z_CL C23) e13
            rw [t_gO (z_148 (z_CL C23)).1.1.1, Option.bind_some, e13, Option.bind_some]
            exact Ok_s ⟨z_tr F23 f13, Y13, n13, h413, hn13⟩
          | inr w =>
            rw [hit2] at r23
            obtain ⟨X23, hp23⟩ := r23
            obtain ⟨M13, e13, ⟨f13, X13⟩, h413, hm13, ho13⟩ := C_markX X23 h423 (by omega)
            rw [t_gO (z_148 (z_CL X23.1.1)).1.1.1, Option.bind_some, e13, Option.bind_some]
            refine Ok_s ⟨z_tr F23 f13, X13, by rw [h413]; simp; omega, ⟨⟨?_, ?_⟩, ?_⟩, c_K_c (fun q hq => (ho13 q (by omega)).trans (congrFun m150 q)) K12⟩
            · rw [ho13 _ (by omega), m150]
              exact hm120
            · rw [ho13 _ (by omega), m150]
              exact hm12
            · exact hm13
        · rw [if_neg (fun z => c279 (by rw [← h18, z]; rfl)), if_neg c279]
          delta F_X7_readClause_b108
          obtain ⟨M13, e13, ⟨f13, X13⟩, h413, hm13, ho13⟩ := C_markX X12 h412 (by omega)
          rw [t_gO k1, Option.bind_some, e13, Option.bind_some]
          refine Ok_s ⟨z_tr F12 f13, X13, by rw [h413]; simp; omega, ⟨⟨?_, ?_⟩, ?_⟩, c_K_c (fun q hq => ho13 q (by omega)) K12⟩
          · rw [ho13 _ (by omega)]
            exact hm120
          · rw [ho13 _ (by omega)]
            exact hm12
          · exact hm13
    · have := i_nle c12
      rw [if_neg c12, if_pos (by omega)]
      exact bad (l := (4 : Int32)) (d := 4) rfl (by decide)
  · rw [if_neg (fun z => c278 (by rw [← h3, z]; rfl)), if_pos c278]
    exact bad (l := (0 : Int32)) (d := 0) rfl (by decide)
