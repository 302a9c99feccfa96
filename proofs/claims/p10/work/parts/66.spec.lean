/-! RULES, as the document reads them: a place, how many VALUES, the steps (newest first); or a FAULT -/
abbrev sS : Type := Nat × Nat × List (Nat × Int32)
abbrev s_R : Type := Nat ⊕ sS
def s_b (r : s_R) (f : sS → s_R) : s_R := match r with
  | .inl e => .inl e
  | .inr x => f x
def s_push (x : sS) (a : Nat × Int32) : sS := (x.1, x.2.1, a :: x.2.2)
def s_val (T : gM) (x : sS) : s_R :=
  if n_D T x.1 = true then (if n_ok T x.1 0 99999 = true then (if x.2.1 = 60 then .inl (1 + 8 * x.1 + 3) else .inr (k_go T x.1, x.2.1 + 1, (0, n_v T x.1) :: x.2.2)) else .inl (1 + 8 * x.1 + 1))
  else if 261 ≤ k_kind T x.1 ∧ k_kind T x.1 ≤ 274 then (if x.2.1 = 60 then .inl (1 + 8 * x.1 + 3) else .inr (k_go T x.1, x.2.1 + 1, (1, Int32.ofInt (k_kind T x.1 - 261)) :: x.2.2))
  else .inl (1 + 8 * x.1 + 0)
/-- what joins: PARTS 0, FACTS 1, TERMS 2, VALUES 3 -/
def s_jo (what : Nat) (k : Int) : Nat :=
  if k = 37 then (if what = 3 then 6 else 0) else if k = 42 then (if what = 3 then 4 else 0) else if k = 43 then (if what = 2 then 2 else 0) else if k = 45 then (if what = 2 then 3 else 0) else if k = 47 then (if what = 3 then 5 else 0) else if k = 281 then (if what = 1 then 12 else 0) else if k = 282 then (if what = 0 then 13 else 0) else 0
def s_loop (T : gM) (what : Nat) (item : sS → s_R) : Nat → sS → s_R
  | 0, x => .inr x
  | n + 1, x => if s_jo what (k_kind T x.1) = 0 then .inr x else s_b (item (k_go T x.1, x.2)) (fun y => s_loop T what item n (s_push y (s_jo what (k_kind T x.1), 0)))
def s_join (T : gM) (what : Nat) (item : sS → s_R) (x : sS) : s_R := s_b (item x) (s_loop T what item 402)
def s_term (T : gM) : sS → s_R := s_join T 3 (s_val T)
def s_sum (T : gM) : sS → s_R := s_join T 2 (s_term T)
def s_co (k : Int) : Nat := if k = 60 then 7 else if k = 61 then 9 else if k = 62 then 11 else if k = 258 then 8 else if k = 259 then 10 else 0
def s_cmp2 (T : gM) (y : sS) : s_R := if s_co (k_kind T y.1) = 0 then .inl (1 + 8 * y.1 + 0) else if y.2.1 = 60 then .inl (1 + 8 * y.1 + 3) else s_b (s_sum T (k_go T y.1, y.2.1 + 1, y.2.2)) (fun z => .inr (s_push z (s_co (k_kind T y.1), 0)))
def s_cmp (T : gM) (x : sS) : s_R := s_b (s_sum T x) (s_cmp2 T)
def s_close (T : gM) (y : sS) : s_R := if k_kind T y.1 = 93 then .inr (k_go T y.1, y.2) else .inl (1 + 8 * y.1 + 0)
def s_fact (T : gM) : Nat → Nat → sS → s_R
  | 0, _, _ => .inl 0
  | n + 1, d, x =>
    if k_kind T x.1 = 91 then (if 10 ≤ d then .inl (1 + 8 * x.1 + 2) else s_b (s_join T 0 (s_join T 1 (s_fact T n (d + 1))) (k_go T x.1, x.2)) (s_close T))
    else if k_kind T x.1 = 280 then (if 10 ≤ d then .inl (1 + 8 * x.1 + 2) else s_b (s_fact T n (d + 1) (k_go T x.1, x.2)) (fun y => .inr (s_push y (14, 0))))
    else s_cmp T x
def s_F (T : gM) (d : Nat) : sS → s_R := s_fact T (11 - d) d
def s_J (T : gM) (what d : Nat) : sS → s_R := match what with
  | 0 => s_join T 0 (s_join T 1 (s_F T d))
  | 1 => s_join T 1 (s_F T d)
  | 2 => s_sum T
  | _ => s_term T
theorem s_F_eq {T : gM} {d : Nat} (hd : d ≤ 10) (x : sS) : s_F T d x =
    if k_kind T x.1 = 91 then (if 10 ≤ d then .inl (1 + 8 * x.1 + 2) else s_b (s_J T 0 (d + 1) (k_go T x.1, x.2)) (s_close T))
    else if k_kind T x.1 = 280 then (if 10 ≤ d then .inl (1 + 8 * x.1 + 2) else s_b (s_F T (d + 1) (k_go T x.1, x.2)) (fun y => .inr (s_push y (14, 0))))
    else s_cmp T x := by
  unfold s_F
  rw [show 11 - d = (11 - (d + 1)) + 1 by omega]
  rfl
/-! the class's steps -/
def e_c (a : Nat × Int32) : Int32 := Int32.ofNat a.1 ||| (a.2 <<< ((4 : Int32) &&& 31))
def c_O (f : Nat → Int32) : List (Nat × Int32) → Prop
  | [] => True
  | a :: o => f o.length = e_c a ∧ c_O f o
theorem c_O_c {f g : Nat → Int32} : ∀ {o : List (Nat × Int32)}, (∀ q, q < o.length → g q = f q) → c_O f o → c_O g o := by
  intro o
  induction o with
  | nil => intro _ _; trivial
  | cons a o ih =>
    intro h hc
    exact ⟨(h o.length (by simp)).trans hc.1, ih (fun q hq => h q (by simp; omega)) hc.2⟩
/-- the class, no FAULT yet, where the reading of the rule stands at x; c steps more can come -/
def c_X (T M : gM) (x : sS) (c : Nat) : Prop := (z_C T M x.1 ∧ M.2.1 131 7 = 0) ∧ ((M.2.1 148 5).toInt = (x.2.1 : Int) ∧ x.2.1 ≤ 60) ∧ ((M.2.1 148 3).toInt = (x.2.2.length : Int) ∧ c_O (M.2.1 149) x.2.2) ∧ x.2.2.length + c ≤ x.1
/-- the class in a FAULT -/
def c_Y (T M : gM) (e : Nat) : Prop := (∃ p, z_C T M p) ∧ (M.2.1 131 7).toInt = (e : Int) ∧ e ≠ 0 ∧ (0 ≤ (M.2.1 148 3).toInt ∧ (M.2.1 148 3).toInt ≤ 400)
/-- marks stand -/
def c_Fr (M M' : gM) : Prop := z_Fr M M' ∧ M'.2.1 150 = M.2.1 150 ∧ M'.2.1 148 4 = M.2.1 148 4
theorem c_rf {M : gM} : c_Fr M M := ⟨z_rf, rfl, rfl⟩
theorem c_tr {M M1 M2 : gM} (h1 : c_Fr M M1) (h2 : c_Fr M1 M2) : c_Fr M M2 := ⟨z_tr h1.1 h2.1, h2.2.1.trans h1.2.1, h2.2.2.trans h1.2.2⟩
theorem c_57 {M M' : gM} (h : z_57 M M') : c_Fr M M' := ⟨h.1, funext (fun k => h.2 150 k (by omega)), h.2 148 4 (by omega)⟩
def c_R (T : gM) (r : s_R) (p c : Nat) (M' : gM) : Prop := match r with
  | .inl e => c_Y T M' e
  | .inr y => c_X T M' y c ∧ p ≤ y.1
def c_P (T M : gM) (r : s_R) (p c : Nat) : gM → Prop := fun M' => c_Fr M M' ∧ c_R T r p c M'
theorem c_Yn {T M : gM} {e : Nat} (Y : c_Y T M e) : M.2.1 131 7 ≠ 0 := by
  intro h
  have := Y.2.1
  rw [h] at this
  have z0 : (0 : Int32).toInt = 0 := rfl
  have := Y.2.2.1
  omega
theorem c_X57 {T M M' : gM} {x : sS} {c c2 p : Nat} (X : c_X T M x c) (h : z_57 M M') (C : z_C T M' p) (f : M'.2.1 131 7 = 0) (hc : x.2.2.length + c2 ≤ p) : c_X T M' (p, x.2) c2 := by
  refine ⟨⟨C, f⟩, ⟨by rw [h.2 148 5 (by omega)]; exact X.2.1.1, X.2.1.2⟩, ⟨by rw [h.2 148 3 (by omega)]; exact X.2.2.1.1, ?_⟩, hc⟩
  have e : M'.2.1 149 = M.2.1 149 := funext (fun k => h.2 149 k (by omega))
  rw [e]
  exact X.2.2.1.2
theorem c_Y57 {T M M' : gM} {x : sS} {c p e : Nat} (X : c_X T M x c) (h : z_57 M M') (C : z_C T M' p) (f : (M'.2.1 131 7).toInt = (e : Int)) (he : e ≠ 0) : c_Y T M' e := by
  refine ⟨⟨p, C⟩, f, he, ?_⟩
  rw [h.2 148 3 (by omega)]
  have := X.2.2.1.1
  have := z_Cs X.1.1
  have := X.2.2.2
  omega
theorem c_YY {T M M' : gM} {e p : Nat} (Y : c_Y T M e) (h : z_57 M M') (C : z_C T M' p) (f : M'.2.1 131 7 = M.2.1 131 7) : c_Y T M' e := ⟨⟨p, C⟩, by rw [f]; exact Y.2.1, Y.2.2.1, by rw [h.2 148 3 (by omega)]; exact Y.2.2.2⟩
theorem z_148 {M : gM} (h : z_L M) : ((g_k M 148 = (7, 0) ∧ g_k M 149 = (20, 400)) ∧ g_k M 150 = (20, 36)) ∧ ((M.2.2.2 148 0 = some 131 ∧ M.2.2.2 148 1 = some 149) ∧ M.2.2.2 148 2 = some 150) := ⟨h.1.2, h.2.2⟩
theorem z_CL {T M : gM} {p : Nat} (C : z_C T M p) : z_L M := C.1.1.1
/-! one step is put -/
theorem C_put {T M : gM} {x : sS} {c : Nat} {s : Int32} {a : Nat × Int32} (X : c_X T M x (c + 1)) (hs : s = e_c a) : Ok (F_X7_put (some 148) s M) (fun M' => c_Fr M M' ∧ c_X T M' (s_push x a) c) := by
  obtain ⟨⟨C, f0⟩, ⟨v1, v2⟩, ⟨l1, l2⟩, hc⟩ := X
  obtain ⟨⟨⟨k1, k2⟩, _⟩, ⟨⟨r0, r1⟩, _⟩⟩ := z_148 (z_CL C)
  have hs2 := z_Cs C
  have i400 : (Int32.ofNat 400).toInt = 400 := rfl
  have cl : (M.2.1 148 3).toNatClampNeg = x.2.2.length := i_cl l1
  delta F_X7_put F_X7_put_b0
  rw [t_gI k1, Option.bind_some, t_gR k1 r1, Option.bind_some, t_aN k2 (by decide), Option.bind_some, if_neg (fun z => by have := i_le z; omega), Option.bind_some, Option.bind_some, t_sI k2 (by omega) (by omega), Option.bind_some, cl]
  have k1' : g_k (mI M 149 x.2.2.length s) 148 = (7, 0) := k1
  have e3 : (mI M 149 x.2.2.length s).2.1 148 3 = M.2.1 148 3 := mI_ne (Or.inl (by decide))
  rw [t_gI k1', Option.bind_some, t_pI k1', Option.bind_some, e3, n_inc l1 (by omega)]
  have C1 : z_C T (mI (mI M 149 x.2.2.length s) 148 3 (Int32.ofNat (x.2.2.length + 1))) x.1 := z_Cmi (z_Cmi C (by unfold z_W; omega) (Or.inr (Or.inr (Or.inl rfl)))) (by unfold z_W; omega) (Or.inr (Or.inl rfl))
  have o : ∀ i k, i ≠ 149 → ¬ (i = 148 ∧ k = 3) → (mI (mI M 149 x.2.2.length s) 148 3 (Int32.ofNat (x.2.2.length + 1))).2.1 i k = M.2.1 i k := fun i k h1 h2 => by rw [mI_ne (by omega), mI_ne (Or.inl h1)]
  refine Ok_s ⟨⟨z_tr (z_up (by unfold z_W; omega)) (z_up (by unfold z_W; omega)), funext (fun k => o 150 k (by omega) (by omega)), o 148 4 (by omega) (by omega)⟩, ⟨C1, by rw [o 131 7 (by omega) (by omega)]; exact f0⟩, ⟨by rw [o 148 5 (by omega) (by omega)]; exact v1, v2⟩, ⟨by rw [y_mI1, i_ofNat (by omega)]; rfl, ?_⟩, ?_⟩
  · refine ⟨?_, c_O_c (fun q hq => ?_) l2⟩
    · rw [mI_ne (Or.inl (by decide)), y_mI1]
      exact hs
    · rw [mI_ne (Or.inl (by decide)), mI_ne (Or.inr (by omega))]
  · show (a :: x.2.2).length + c ≤ x.1
    simp
    omega
theorem C_putY {T M : gM} {e : Nat} {s : Int32} (Y : c_Y T M e) : Ok (F_X7_put (some 148) s M) (fun M' => c_Fr M M' ∧ c_Y T M' e) := by
  obtain ⟨⟨p, C⟩, f0, he, l1, l2⟩ := Y
  obtain ⟨⟨⟨k1, k2⟩, _⟩, ⟨⟨r0, r1⟩, _⟩⟩ := z_148 (z_CL C)
  have i400 : (Int32.ofNat 400).toInt = 400 := rfl
  delta F_X7_put F_X7_put_b0
  rw [t_gI k1, Option.bind_some, t_gR k1 r1, Option.bind_some, t_aN k2 (by decide), Option.bind_some]
  refine Ok_i (fun c => Ok_s ⟨c_rf, ⟨p, C⟩, f0, he, l1, l2⟩) (fun c => ?_)
  have hc := i_nle c
  obtain ⟨n, hn⟩ : ∃ n : Nat, (M.2.1 148 3).toInt = (n : Int) := ⟨(M.2.1 148 3).toInt.toNat, by omega⟩
  rw [Option.bind_some, Option.bind_some, t_sI k2 (by omega) (by omega), Option.bind_some, i_cl hn]
  have k1' : g_k (mI M 149 n s) 148 = (7, 0) := k1
  have e3 : (mI M 149 n s).2.1 148 3 = M.2.1 148 3 := mI_ne (Or.inl (by decide))
  rw [t_gI k1', Option.bind_some, t_pI k1', Option.bind_some, e3, n_inc hn (by omega)]
  have C1 : z_C T (mI (mI M 149 n s) 148 3 (Int32.ofNat (n + 1))) p := z_Cmi (z_Cmi C (by unfold z_W; omega) (Or.inr (Or.inr (Or.inl rfl)))) (by unfold z_W; omega) (Or.inr (Or.inl rfl))
  have o : ∀ i k, i ≠ 149 → ¬ (i = 148 ∧ k = 3) → (mI (mI M 149 n s) 148 3 (Int32.ofNat (n + 1))).2.1 i k = M.2.1 i k := fun i k h1 h2 => by rw [mI_ne (by omega), mI_ne (Or.inl h1)]
  refine Ok_s ⟨⟨z_tr (z_up (by unfold z_W; omega)) (z_up (by unfold z_W; omega)), funext (fun k => o 150 k (by omega) (by omega)), o 148 4 (by omega) (by omega)⟩, ⟨p, C1⟩, by rw [o 131 7 (by omega) (by omega)]; exact f0, he, by rw [y_mI1, i_ofNat (by omega)]; omega, by rw [y_mI1, i_ofNat (by omega)]; omega⟩
/-- one VALUE more: too many, a FAULT at its place -/
theorem C_count {T M : gM} {x : sS} {c q : Nat} {l : Int32} (X : c_X T M x c) (hl : l.toInt = (q : Int)) (hq : q ≤ 400) : Ok (F_X7_countValue (some 148) l M) (fun M' => c_Fr M M' ∧ (x.2.1 = 60 → c_Y T M' (1 + 8 * q + 3)) ∧ (x.2.1 ≠ 60 → c_X T M' (x.1, x.2.1 + 1, x.2.2) c)) := by
  obtain ⟨⟨C, f0⟩, ⟨v1, v2⟩, ⟨l1, l2⟩, hc⟩ := X
  obtain ⟨⟨⟨k1, k2⟩, _⟩, ⟨⟨r0, r1⟩, _⟩⟩ := z_148 (z_CL C)
  have hs2 := z_Cs C
  have z60 : (60 : Int32).toInt = 60 := rfl
  delta F_X7_countValue F_X7_countValue_b0
  rw [t_gI k1, Option.bind_some, t_pI k1, Option.bind_some, n_inc v1 (by omega)]
  have C1 : z_C T (mI M 148 5 (Int32.ofNat (x.2.1 + 1))) x.1 := z_Cmi C (by unfold z_W; omega) (Or.inr (Or.inl rfl))
  have f1 : z_Fr M (mI M 148 5 (Int32.ofNat (x.2.1 + 1))) := z_up (by unfold z_W; omega)
  have o : ∀ i k, ¬ (i = 148 ∧ k = 5) → (mI M 148 5 (Int32.ofNat (x.2.1 + 1))).2.1 i k = M.2.1 i k := fun i k h => mI_ne (by omega)
  have v5 : ((mI M 148 5 (Int32.ofNat (x.2.1 + 1))).2.1 148 5).toInt = ((x.2.1 + 1 : Nat) : Int) := by rw [y_mI1, i_ofNat (by omega)]
  generalize mI M 148 5 (Int32.ofNat (x.2.1 + 1)) = M2 at C1 f1 o v5 ⊢
  obtain ⟨⟨⟨k1, k2⟩, _⟩, ⟨⟨r0, r1⟩, _⟩⟩ := z_148 (z_CL C1)
  have fr : c_Fr M M2 := ⟨f1, funext (fun k => o 150 k (by omega)), o 148 4 (by omega)⟩
  have f2 : M2.2.1 131 7 = 0 := by rw [o 131 7 (by omega)]; exact f0
  have e149 : M2.2.1 149 = M.2.1 149 := funext (fun k => o 149 k (by omega))
  rw [t_gI k1, Option.bind_some]
  refine Ok_i (fun c3 => ?_) (fun c3 => ?_)
  · have := i_le c3
    refine Ok_s ⟨fr, fun h => by omega, fun _ => ⟨⟨C1, f2⟩, ⟨v5, by show x.2.1 + 1 ≤ 60; omega⟩, ⟨by rw [o 148 3 (by omega)]; exact l1, by rw [e149]; exact l2⟩, hc⟩⟩
  · have := i_nle c3
    have k9 := z_k131 C1
    rw [t_gR k1 r0, Option.bind_some, t_gO k9, Option.bind_some, C_blame k9, Option.bind_some]
    obtain ⟨c1, c2⟩ := n_bl_r (l1 := l) (l2 := (3 : Int32)) C1
    have e0 := n_bl_0 (M := M2) (l1 := l) (l2 := (3 : Int32)) (q := q) (d := 3) f2 hl hq rfl (by decide)
    refine Ok_s ⟨c_tr fr (c_57 (z_57b c2)), fun _ => ⟨⟨_, c1⟩, e0, by omega, ?_⟩, fun h => by omega⟩
    rw [c2.2 148 3 (by omega), o 148 3 (by omega)]
    omega
theorem C_countY {T M : gM} {e : Nat} {l : Int32} (Y : c_Y T M e) : Ok (F_X7_countValue (some 148) l M) (fun M' => c_Fr M M' ∧ c_Y T M' e) := by
  have fn := c_Yn Y
  obtain ⟨⟨p, C⟩, f0, he, l1, l2⟩ := Y
  obtain ⟨⟨⟨k1, k2⟩, _⟩, ⟨⟨r0, r1⟩, _⟩⟩ := z_148 (z_CL C)
  delta F_X7_countValue F_X7_countValue_b0
  rw [t_gI k1, Option.bind_some, t_pI k1, Option.bind_some]
  generalize (M.2.1 148 5 + (1 : Int32)) = w
  have C1 : z_C T (mI M 148 5 w) p := z_Cmi C (by unfold z_W; omega) (Or.inr (Or.inl rfl))
  have f1 : z_Fr M (mI M 148 5 w) := z_up (by unfold z_W; omega)
  have o : ∀ i k, ¬ (i = 148 ∧ k = 5) → (mI M 148 5 w).2.1 i k = M.2.1 i k := fun i k h => mI_ne (by omega)
  generalize mI M 148 5 w = M2 at C1 f1 o ⊢
  obtain ⟨⟨⟨k1, k2⟩, _⟩, ⟨⟨r0, r1⟩, _⟩⟩ := z_148 (z_CL C1)
  have fr : c_Fr M M2 := ⟨f1, funext (fun k => o 150 k (by omega)), o 148 4 (by omega)⟩
  have Y2 : c_Y T M2 e := ⟨⟨p, C1⟩, by rw [o 131 7 (by omega)]; exact f0, he, by rw [o 148 3 (by omega)]; exact ⟨l1, l2⟩⟩
  rw [t_gI k1, Option.bind_some]
  refine Ok_i (fun c3 => Ok_s ⟨fr, Y2⟩) (fun c3 => ?_)
  have k9 := z_k131 C1
  rw [t_gR k1 r0, Option.bind_some, t_gO k9, Option.bind_some, C_blame k9, Option.bind_some, n_bl_s (c_Yn Y2)]
  exact Ok_s ⟨fr, Y2⟩
