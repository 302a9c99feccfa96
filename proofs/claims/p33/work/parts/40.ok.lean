/-! the pure part: 'it answers, and what it answers keeps this' -/
def Ok {α : Type} (o : Option α) (P : α → Prop) : Prop := ∃ a, o = some a ∧ P a
theorem Ok_b {α β : Type} {o : Option α} {f : α → Option β} {P : α → Prop} {Q : β → Prop} (h : Ok o P) (k : ∀ a, P a → Ok (f a) Q) : Ok (o.bind f) Q := by
  obtain ⟨a, rfl, ha⟩ := h
  exact k a ha
theorem Ok_s {α : Type} {a : α} {P : α → Prop} (h : P a) : Ok (some a) P := ⟨a, rfl, h⟩
theorem Ok_i {c : Prop} [Decidable c] {α : Type} {a b : Option α} {P : α → Prop} (h1 : c → Ok a P) (h2 : ¬ c → Ok b P) : Ok (if c then a else b) P := by
  by_cases hc : c
  · rw [if_pos hc]; exact h1 hc
  · rw [if_neg hc]; exact h2 hc
theorem Ok_w {α : Type} {o : Option α} {P Q : α → Prop} (h : Ok o P) (k : ∀ a, P a → Q a) : Ok o Q := by
  obtain ⟨a, e, ha⟩ := h
  exact ⟨a, e, k a ha⟩
/-! numbers of 32 bits -/
theorem i_lt {x y : Int32} (h : x < y) : x.toInt < y.toInt := Int32.lt_iff_toInt_lt.mp h
theorem i_le {x y : Int32} (h : x ≤ y) : x.toInt ≤ y.toInt := Int32.le_iff_toInt_le.mp h
theorem i_nlt {x y : Int32} (h : ¬ x < y) : y.toInt ≤ x.toInt := by
  rw [Int32.lt_iff_toInt_lt] at h
  omega
theorem i_nle {x y : Int32} (h : ¬ x ≤ y) : y.toInt < x.toInt := by
  rw [Int32.le_iff_toInt_le] at h
  omega
theorem i_eq {x y : Int32} (h : x = y) : x.toInt = y.toInt := congrArg _ h
theorem i_ne {x y : Int32} (h : ¬ x = y) : x.toInt ≠ y.toInt := fun e => h (Int32.toInt_inj.mp e)
theorem i_bm {n : Int} (h1 : -2147483648 ≤ n) (h2 : n ≤ 2147483647) : n.bmod 4294967296 = n := by
  rw [Int.bmod_def]
  split <;> omega
theorem i_add {x y : Int32} (h1 : -2147483648 ≤ x.toInt + y.toInt) (h2 : x.toInt + y.toInt ≤ 2147483647) : (x + y).toInt = x.toInt + y.toInt := by
  rw [Int32.toInt_add]
  exact i_bm h1 h2
theorem i_sub {x y : Int32} (h1 : -2147483648 ≤ x.toInt - y.toInt) (h2 : x.toInt - y.toInt ≤ 2147483647) : (x - y).toInt = x.toInt - y.toInt := by
  rw [Int32.toInt_sub]
  exact i_bm h1 h2
theorem i_mul {x y : Int32} (h1 : -2147483648 ≤ x.toInt * y.toInt) (h2 : x.toInt * y.toInt ≤ 2147483647) : (x * y).toInt = x.toInt * y.toInt := by
  rw [Int32.toInt_mul]
  exact i_bm h1 h2
theorem i_mulL {c x : Int32} {n : Int} (hc : c.toInt = n) (h1 : -2147483648 ≤ n * x.toInt) (h2 : n * x.toInt ≤ 2147483647) : (c * x).toInt = n * x.toInt := by
  subst hc
  exact i_mul h1 h2
theorem i_mulR {c x : Int32} {n : Int} (hc : c.toInt = n) (h1 : -2147483648 ≤ n * x.toInt) (h2 : n * x.toInt ≤ 2147483647) : (x * c).toInt = n * x.toInt := by
  subst hc
  rw [Int.mul_comm]
  exact i_mul (by rw [Int.mul_comm]; exact h1) (by rw [Int.mul_comm]; exact h2)
theorem i_rng (x : Int32) : -2147483648 ≤ x.toInt ∧ x.toInt ≤ 2147483647 := ⟨Int32.le_toInt x, Int32.toInt_le x⟩
theorem i_div {x c : Int32} {n : Int} (hc : c.toInt = n) (hn : 0 < n) (hx : 0 ≤ x.toInt) : (x / c).toInt = x.toInt / n := by
  subst hc
  have := i_rng x
  rw [Int32.toInt_div]
  have e : x.toInt.tdiv c.toInt = x.toInt / c.toInt := Int.tdiv_eq_ediv_of_nonneg hx
  have e2 : 0 ≤ x.toInt / c.toInt := Int.ediv_nonneg hx (by omega)
  have e3 : x.toInt / c.toInt ≤ x.toInt := Int.ediv_le_self _ hx
  rw [e]
  exact i_bm (by omega) (by omega)
theorem i_min {x y : Int32} : (if x < y then x else y).toInt = min x.toInt y.toInt := by
  by_cases h : x < y
  · have := i_lt h
    rw [if_pos h]
    omega
  · have := i_nlt h
    rw [if_neg h]
    omega
theorem i_max {x y : Int32} : (if x < y then y else x).toInt = max x.toInt y.toInt := by
  by_cases h : x < y
  · have := i_lt h
    rw [if_pos h]
    omega
  · have := i_nlt h
    rw [if_neg h]
    omega
theorem i_nn (x : Int32) : x.toInt = (x.toInt : Int) := rfl
theorem i_clamp {x : Int32} (h : 0 ≤ x.toInt) : (x.toNatClampNeg : Int) = x.toInt := by
  show ((x.toInt.toNat : Nat) : Int) = x.toInt
  omega
theorem gin_of {j : Int32} {n : Nat} (h0 : 0 ≤ j.toInt) (h1 : j.toInt < (n : Int)) : gin j n = true := by
  unfold gin
  refine decide_eq_true ?_
  rintro (h | h)
  · have := i_lt h
    have e : (0 : Int32).toInt = 0 := rfl
    omega
  · have := i_clamp h0
    omega
theorem clamp_lt {j : Int32} {n : Nat} (h0 : 0 ≤ j.toInt) (h1 : j.toInt < (n : Int)) : j.toNatClampNeg < n := by
  have := i_clamp h0
  omega
/-! what stands where: the class's own places (all but the reference's, 175 to 196) -/
def q_cs (i : Nat) : Prop := i < 175 ∨ 197 ≤ i
def q_full : Int × Int := (-2147483648, 2147483647)
def q_tI (q : Nat × Nat) (k : Nat) : Int × Int :=
  match q.1, k with
  | 0, 1 => (0, 7)
  | 1, 5 => (0, 1)
  | 1, 6 => (0, 7)
  | 1, 7 => (0, 7)
  | 3, 3 => (0, 2147483647)
  | 4, 1 => (0, 19)
  | 4, 2 => (0, 20)
  | 5, 2 => (0, 32)
  | 7, 3 => (0, 400)
  | 7, 4 => (0, 36)
  | 9, 4 => (0, 401)
  | 9, 5 => (0, 401)
  | 9, 6 => (0, 400)
  | 11, 12 => (0, 6)
  | 11, 14 => (0, 2147483647)
  | _, _ => (-2147483648, 2147483647)
def q_tR (q : Nat × Nat) (k : Nat) : Nat × Nat × Nat :=
  match q.1, k with
  | 0, 0 => (1, 21, 49)
  | 1, 0 => (1, 20, 7)
  | 1, 1 => (1, 20, 7)
  | 1, 2 => (1, 20, 7)
  | 1, 3 => (1, 20, 7)
  | 1, 4 => (1, 20, 7)
  | 2, 0 => (1, 9, 0)
  | 2, 1 => (1, 1, 0)
  | 2, 2 => (1, 8, 0)
  | 3, 0 => (1, 8, 0)
  | 3, 1 => (2, 1, 0)
  | 4, 0 => (1, 24, 20)
  | 5, 0 => (1, 21, 32)
  | 5, 1 => (1, 21, 14)
  | 6, 0 => (3, 20, 0)
  | 6, 1 => (3, 20, 0)
  | 7, 0 => (1, 9, 0)
  | 7, 1 => (1, 20, 400)
  | 7, 2 => (1, 20, 36)
  | 8, 0 => (1, 20, 49)
  | 8, 1 => (1, 20, 49)
  | 8, 2 => (1, 20, 7)
  | 8, 3 => (1, 20, 7)
  | 9, 0 => (1, 22, 400)
  | 9, 1 => (1, 20, 401)
  | 9, 2 => (1, 20, 401)
  | 9, 3 => (1, 20, 401)
  | 10, 0 => (1, 20, 49)
  | 10, 1 => (1, 5, 0)
  | 11, 0 => (1, 9, 0)
  | 11, 1 => (1, 2, 0)
  | 11, 2 => (1, 7, 0)
  | 11, 3 => (1, 25, 6)
  | 11, 4 => (1, 10, 0)
  | 11, 5 => (1, 8, 0)
  | 11, 6 => (1, 8, 0)
  | 11, 7 => (1, 4, 0)
  | 11, 8 => (1, 26, 4)
  | 11, 9 => (1, 20, 21)
  | 11, 10 => (1, 0, 0)
  | 11, 11 => (1, 1, 0)
  | 24, _ => if k < q.2 then (1, 8, 0) else (0, 0, 0)
  | 25, _ => if k < q.2 then (2, 6, 0) else (0, 0, 0)
  | 26, _ => if k < q.2 then (1, 3, 0) else (0, 0, 0)
  | _, _ => (0, 0, 0)
def q_Kd (M : gM) (i : Nat) (q : Nat × Nat) : Prop := q_cs i ∧ g_k M i = q
def q_okR (M : gM) (s : Nat × Nat × Nat) (r : Option Nat) : Prop :=
  (s.1 = 0 ∨ (s.1 = 1 ∧ ∃ i, r = some i ∧ q_Kd M i s.2)) ∨ ((s.1 = 2 ∧ (r = none ∨ ∃ i, r = some i ∧ q_Kd M i s.2)) ∨ (s.1 = 3 ∧ ∃ i n, r = some i ∧ q_Kd M i (s.2.1, n) ∧ n ≤ 400))
def q_HT (x : Nat) (M : gM) : Prop := (197 ≤ M.1.length ∧ (g_k M 0).1 = 30) ∧ ∀ i, q_cs i → i ≠ x → ∀ k, q_okR M (q_tR (g_k M i) k) (M.2.2.2 i k) ∧ ((q_tI (g_k M i) k).1 ≤ (M.2.1 i k).toInt ∧ (M.2.1 i k).toInt ≤ (q_tI (g_k M i) k).2)
/-- slots that a frame holds: of IMAGES x and estate, which IMAGE stands where, and (b) what b says of the whole object -/

def q_pI (b : Nat → Bool) (q : Nat × Nat) (k : Nat) : Bool := ((q.1 == 3 && (k == 3 || k == 2)) || (q.1 == 11 && b k)) || (((q.1 == 9 && k == 6) && b 101) || (q.1 == 22 && b 100))
def q_ba : Nat → Bool := fun _ => true
def q_bt : Nat → Bool := fun k => !(k == 100 || k == 101)
def q_bs : Nat → Bool := fun k => !(k == 101)
def q_br : Nat → Bool := fun k => !(k == 12 || k == 101)
def q_bf : Nat → Bool := fun k => !(k == 13)
def q_bd : Nat → Bool := fun k => !(k == 14)
def q_bk : Nat → Bool := fun k => !(k == 13 || k == 14)
/-- places that are fixed once they are made: all but a HOUSE's and a RULE's own, the reader's HOUSE, the estate, the rules -/
def q_pR (q : Nat × Nat) (k : Nat) : Bool := !((q.1 == 1 || q.1 == 6) || ((q.1 == 2 && k == 1) || ((q.1 == 11 && k == 11) || q.1 == 25)))
def q_Fr (b : Nat → Bool) (M M' : gM) : Prop :=
  (M.1.length ≤ M'.1.length ∧ ∀ i, i < M.1.length → g_k M' i = g_k M i) ∧ (∀ i, (¬ q_cs i ∨ i = 0) → M'.2.1 i = M.2.1 i ∧ M'.2.2.1 i = M.2.2.1 i ∧ M'.2.2.2 i = M.2.2.2 i) ∧
    (∀ i, i < M.1.length → ∀ k, q_pI b (g_k M i) k = true → M'.2.1 i k = M.2.1 i k) ∧ (∀ i, i < M.1.length → ∀ k, q_pR (g_k M i) k = true → M'.2.2.2 i k = M.2.2.2 i k)
theorem q_kl {M : gM} {i : Nat} (h : (g_k M i).1 < 90) : i < M.1.length := (List.getElem?_eq_some_iff.mp (g_k_some (q := g_k M i) rfl h)).1
theorem q_k_of {M M' : gM} {i : Nat} (h : M'.1 = M.1) : g_k M' i = g_k M i := by
  unfold g_k
  rw [h]
theorem q_rf (b : Nat → Bool) (M : gM) : q_Fr b M M := ⟨⟨Nat.le_refl _, fun _ _ => rfl⟩, fun _ _ => ⟨rfl, rfl, rfl⟩, fun _ _ _ _ => rfl, fun _ _ _ _ => rfl⟩
theorem q_tr {b : Nat → Bool} {M M1 M2 : gM} (h1 : q_Fr b M M1) (h2 : q_Fr b M1 M2) : q_Fr b M M2 := by
  refine ⟨⟨Nat.le_trans h1.1.1 h2.1.1, fun i hi => ?_⟩, fun i hi => ?_, fun i hi k hk => ?_, fun i hi k hk => ?_⟩
  · rw [h2.1.2 i (Nat.lt_of_lt_of_le hi h1.1.1), h1.1.2 i hi]
  · obtain ⟨a, b, c⟩ := h1.2.1 i hi
    obtain ⟨a1, b1, c1⟩ := h2.2.1 i hi
    exact ⟨a1.trans a, b1.trans b, c1.trans c⟩
  · rw [h2.2.2.1 i (Nat.lt_of_lt_of_le hi h1.1.1) k (by rw [h1.1.2 i hi]; exact hk), h1.2.2.1 i hi k hk]
  · rw [h2.2.2.2 i (Nat.lt_of_lt_of_le hi h1.1.1) k (by rw [h1.1.2 i hi]; exact hk), h1.2.2.2 i hi k hk]
theorem q_fl {b b2 : Nat → Bool} {M M' : gM} (hb : ∀ k, b2 k = true → b k = true) (h : q_Fr b M M') : q_Fr b2 M M' := by
  refine ⟨h.1, h.2.1, fun i hi k hk => h.2.2.1 i hi k ?_, h.2.2.2⟩
  unfold q_pI at hk ⊢
  simp only [Bool.or_eq_true, Bool.and_eq_true] at hk ⊢
  rcases hk with (hk | hk) | hk | hk
  · exact Or.inl (Or.inl hk)
  · exact Or.inl (Or.inr ⟨hk.1, hb k hk.2⟩)
  · exact Or.inr (Or.inl ⟨hk.1, hb 101 hk.2⟩)
  · exact Or.inr (Or.inr ⟨hk.1, hb 100 hk.2⟩)
theorem q_mo {b : Nat → Bool} {M M' : gM} {i : Nat} {q : Nat × Nat} (K : q_Kd M i q) (hq : q.1 < 90) (f : q_Fr b M M') : q_Kd M' i q := by
  obtain ⟨h1, h2⟩ := K
  refine ⟨h1, ?_⟩
  rw [f.1.2 i (q_kl (by rw [h2]; exact hq)), h2]
theorem q_tI_full {q : Nat × Nat} {k : Nat} (h : 12 ≤ q.1) : q_tI q k = (-2147483648, 2147483647) := by
  obtain ⟨a, b⟩ := q
  unfold q_tI
  dsimp only at h ⊢
  split <;> first | omega | rfl
theorem q_tR_none {q : Nat × Nat} {k : Nat} (h : 12 ≤ q.1) (h2 : q.1 < 24 ∨ 27 ≤ q.1) : q_tR q k = (0, 0, 0) := by
  obtain ⟨a, b⟩ := q
  unfold q_tR
  dsimp only at h h2 ⊢
  split <;> first | omega | rfl
theorem q_tR_kd {q : Nat × Nat} {k : Nat} : (q_tR q k).2.1 < 90 := by
  obtain ⟨a, b⟩ := q
  unfold q_tR
  dsimp only
  split <;> (try split) <;> decide
theorem q_okR_mo {M M' : gM} {s : Nat × Nat × Nat} {r : Option Nat} (hs : s.2.1 < 90) (f : ∀ i q, q_Kd M i q → q.1 < 90 → q_Kd M' i q) (h : q_okR M s r) : q_okR M' s r := by
  rcases h with (h | ⟨h, i, rfl, K⟩) | (⟨h, h2⟩ | ⟨h, i, n, rfl, K, hn⟩)
  · exact Or.inl (Or.inl h)
  · exact Or.inl (Or.inr ⟨h, i, rfl, f i _ K hs⟩)
  · refine Or.inr (Or.inl ⟨h, ?_⟩)
    rcases h2 with h2 | ⟨i, rfl, K⟩
    · exact Or.inl h2
    · exact Or.inr ⟨i, rfl, f i _ K hs⟩
  · exact Or.inr (Or.inr ⟨h, i, n, rfl, f i _ K hs, hn⟩)
theorem q_ne0 {x : Nat} {M : gM} {i : Nat} {q : Nat × Nat} (H : q_HT x M) (K : q_Kd M i q) (hq : q.1 < 30) : i ≠ 0 := by
  rintro rfl
  have h := H.1.2
  rw [K.2] at h
  omega
/-! reads -/
theorem c_gI {x c i k : Nat} {lo hi : Int} {M : gM} {β : Type} {f : Int32 → Option β} {Q : β → Prop} (H : q_HT x M) (K : q_Kd M i (c, 0)) (hx : i ≠ x) (ht : q_tI (c, 0) k = (lo, hi)) (h : ∀ v : Int32, M.2.1 i k = v → (lo ≤ v.toInt ∧ v.toInt ≤ hi) → Ok (f v) Q) : Ok ((gI c M (some i) k).bind f) Q := by
  unfold gI
  rw [Option.bind_some, if_pos K.2]
  have h9 := (H.2 i K.1 hx k).2
  rw [K.2, ht] at h9
  exact h _ rfl h9
theorem c_gIt {c i k : Nat} {M : gM} {β : Type} {f : Int32 → Option β} {Q : β → Prop} (K : q_Kd M i (c, 0)) (h : ∀ v : Int32, M.2.1 i k = v → Ok (f v) Q) : Ok ((gI c M (some i) k).bind f) Q := by
  unfold gI
  rw [Option.bind_some, if_pos K.2]
  exact h _ rfl
theorem c_gIs {c i k : Nat} {M : gM} {w : Int32} {β : Type} {f : Int32 → Option β} {Q : β → Prop} (K : q_Kd M i (c, 0)) (e : M.2.1 i k = w) (h : ∀ v : Int32, v = w → Ok (f v) Q) : Ok ((gI c M (some i) k).bind f) Q := by
  unfold gI
  rw [Option.bind_some, if_pos K.2]
  exact h _ e
theorem q_dn {M : gM} {i j : Nat} {q1 q2 : Nat × Nat} (K : q_Kd M i q1) (K2 : q_Kd M j q2) (h : q1.1 < q2.1 ∨ q2.1 < q1.1) : i ≠ j := by
  rintro rfl
  have e : q1 = q2 := K.2.symm.trans K2.2
  subst e
  omega
theorem q_mN {b : Nat → Bool} {M M' : gM} {r : Option Nat} {q : Nat × Nat} (h : r = none ∨ ∃ i, r = some i ∧ q_Kd M i q) (hq : q.1 < 90) (f : q_Fr b M M') : r = none ∨ ∃ i, r = some i ∧ q_Kd M' i q := by
  rcases h with h | ⟨i, e, K⟩
  · exact Or.inl h
  · exact Or.inr ⟨i, e, q_mo K hq f⟩
theorem c_gIe {c i k : Nat} {M : gM} {β : Type} {f : Int32 → Option β} {Q : β → Prop} (K : q_Kd M i (c, 0)) (h : Ok (f (M.2.1 i k)) Q) : Ok ((gI c M (some i) k).bind f) Q := by
  unfold gI
  rw [Option.bind_some, if_pos K.2]
  exact h
theorem c_gL {c i k : Nat} {M : gM} {β : Type} {f : Int64 → Option β} {Q : β → Prop} (K : q_Kd M i (c, 0)) (h : ∀ v : Int64, Ok (f v) Q) : Ok ((gL c M (some i) k).bind f) Q := by
  unfold gL
  rw [Option.bind_some, if_pos K.2]
  exact h _
theorem c_gR {x c i k : Nat} {q : Nat × Nat} {M : gM} {β : Type} {f : Option Nat → Option β} {Q : β → Prop} (H : q_HT x M) (K : q_Kd M i (c, 0)) (hx : i ≠ x) (ht : q_tR (c, 0) k = (1, q)) (h : ∀ j : Nat, M.2.2.2 i k = some j → q_Kd M j q → Ok (f (some j)) Q) : Ok ((gR c M (some i) k).bind f) Q := by
  unfold gR
  rw [Option.bind_some, if_pos K.2]
  have h9 := (H.2 i K.1 hx k).1
  rw [K.2, ht] at h9
  rcases h9 with (h9 | ⟨h9, j, e, Kj⟩) | (⟨h9, h2⟩ | ⟨h9, h2⟩)
  · exact absurd h9 (by simp)
  · rw [Option.bind_some, e]
    exact h j e Kj
  · exact absurd h9 (by simp)
  · exact absurd h9 (by simp)
theorem c_gRs {c i k w : Nat} {M : gM} {β : Type} {f : Option Nat → Option β} {Q : β → Prop} (K : q_Kd M i (c, 0)) (e : M.2.2.2 i k = some w) (h : Ok (f (some w)) Q) : Ok ((gR c M (some i) k).bind f) Q := by
  unfold gR
  rw [Option.bind_some, if_pos K.2, Option.bind_some, e]
  exact h
theorem c_gRn {x c i k : Nat} {q : Nat × Nat} {M : gM} {β : Type} {f : Option Nat → Option β} {Q : β → Prop} (H : q_HT x M) (K : q_Kd M i (c, 0)) (hx : i ≠ x) (ht : q_tR (c, 0) k = (2, q)) (h : ∀ r : Option Nat, (r = none ∨ ∃ j, r = some j ∧ q_Kd M j q) → Ok (f r) Q) : Ok ((gR c M (some i) k).bind f) Q := by
  unfold gR
  rw [Option.bind_some, if_pos K.2]
  have h9 := (H.2 i K.1 hx k).1
  rw [K.2, ht] at h9
  rcases h9 with (h9 | ⟨h9, j, e, Kj⟩) | (⟨h9, h2⟩ | ⟨h9, h2⟩)
  · exact absurd h9 (by simp)
  · exact absurd h9 (by simp)
  · exact h _ h2
  · exact absurd h9 (by simp)
theorem c_gR3 {x c i k t : Nat} {z : Nat} {M : gM} {β : Type} {f : Option Nat → Option β} {Q : β → Prop} (H : q_HT x M) (K : q_Kd M i (c, 0)) (hx : i ≠ x) (ht : q_tR (c, 0) k = (3, t, z)) (h : ∀ j n : Nat, q_Kd M j (t, n) → n ≤ 400 → Ok (f (some j)) Q) : Ok ((gR c M (some i) k).bind f) Q := by
  unfold gR
  rw [Option.bind_some, if_pos K.2]
  have h9 := (H.2 i K.1 hx k).1
  rw [K.2, ht] at h9
  rcases h9 with (h9 | ⟨h9, j, e, Kj⟩) | (⟨h9, h2⟩ | ⟨h9, j, n, e, Kj, hn⟩)
  · exact absurd h9 (by simp)
  · exact absurd h9 (by simp)
  · exact absurd h9 (by simp)
  · rw [Option.bind_some, e]
    exact h j n Kj hn
theorem c_gO {c i : Nat} {M : gM} {β : Type} {f : Nat → Option β} {Q : β → Prop} (K : q_Kd M i (c, 0)) (h : Ok (f i) Q) : Ok ((gO c M (some i)).bind f) Q := by
  unfold gO
  rw [Option.bind_some, if_pos K.2]
  exact h
theorem c_gC {c i : Nat} {M : gM} {β : Type} {f : Unit → Option β} {Q : β → Prop} (K : q_Kd M i (c, 0)) (h : Ok (f ()) Q) : Ok ((gC c M i).bind f) Q := by
  unfold gC
  rw [if_pos K.2]
  exact h
theorem c_aI {t i n : Nat} {j : Int32} {M : gM} {β : Type} {f : Int32 → Option β} {Q : β → Prop} (K : q_Kd M i (t, n)) (h0 : 0 ≤ j.toInt) (h1 : j.toInt < (n : Int)) (h : ∀ v : Int32, Ok (f v) Q) : Ok ((aI t M (some i) j).bind f) Q := by
  unfold aI
  rw [Option.bind_some, if_pos ⟨by rw [K.2], by rw [K.2]; exact gin_of h0 h1⟩]
  exact h _
theorem c_aL {i n : Nat} {j : Int32} {M : gM} {β : Type} {f : Int64 → Option β} {Q : β → Prop} (K : q_Kd M i (21, n)) (h0 : 0 ≤ j.toInt) (h1 : j.toInt < (n : Int)) (h : ∀ v : Int64, Ok (f v) Q) : Ok ((aL M (some i) j).bind f) Q := by
  unfold aL
  rw [Option.bind_some, if_pos ⟨by rw [K.2], by rw [K.2]; exact gin_of h0 h1⟩]
  exact h _
theorem c_aR24 {x i n : Nat} {j : Int32} {M : gM} {β : Type} {f : Option Nat → Option β} {Q : β → Prop} (H : q_HT x M) (K : q_Kd M i (24, n)) (hx : i ≠ x) (h0 : 0 ≤ j.toInt) (h1 : j.toInt < (n : Int)) (h : ∀ a : Nat, q_Kd M a (8, 0) → Ok (f (some a)) Q) : Ok ((aR 24 M (some i) j).bind f) Q := by
  unfold aR
  rw [Option.bind_some, if_pos ⟨by rw [K.2], by rw [K.2]; exact gin_of h0 h1⟩]
  have h9 := (H.2 i K.1 hx j.toNatClampNeg).1
  rw [K.2, show q_tR (24, n) j.toNatClampNeg = (1, 8, 0) from if_pos (clamp_lt h0 h1)] at h9
  rcases h9 with (h9 | ⟨h9, j, e, Kj⟩) | (⟨h9, h2⟩ | ⟨h9, h2⟩)
  · exact absurd h9 (by simp)
  · rw [Option.bind_some, e]
    exact h _ Kj
  · exact absurd h9 (by simp)
  · exact absurd h9 (by simp)
theorem c_aR26 {x i n : Nat} {j : Int32} {M : gM} {β : Type} {f : Option Nat → Option β} {Q : β → Prop} (H : q_HT x M) (K : q_Kd M i (26, n)) (hx : i ≠ x) (h0 : 0 ≤ j.toInt) (h1 : j.toInt < (n : Int)) (h : ∀ a : Nat, q_Kd M a (3, 0) → Ok (f (some a)) Q) : Ok ((aR 26 M (some i) j).bind f) Q := by
  unfold aR
  rw [Option.bind_some, if_pos ⟨by rw [K.2], by rw [K.2]; exact gin_of h0 h1⟩]
  have h9 := (H.2 i K.1 hx j.toNatClampNeg).1
  rw [K.2, show q_tR (26, n) j.toNatClampNeg = (1, 3, 0) from if_pos (clamp_lt h0 h1)] at h9
  rcases h9 with (h9 | ⟨h9, j, e, Kj⟩) | (⟨h9, h2⟩ | ⟨h9, h2⟩)
  · exact absurd h9 (by simp)
  · rw [Option.bind_some, e]
    exact h _ Kj
  · exact absurd h9 (by simp)
  · exact absurd h9 (by simp)
theorem c_aR25 {x i n : Nat} {j : Int32} {M : gM} {β : Type} {f : Option Nat → Option β} {Q : β → Prop} (H : q_HT x M) (K : q_Kd M i (25, n)) (hx : i ≠ x) (h0 : 0 ≤ j.toInt) (h1 : j.toInt < (n : Int)) (h : ∀ r : Option Nat, (r = none ∨ ∃ a, r = some a ∧ q_Kd M a (6, 0)) → Ok (f r) Q) : Ok ((aR 25 M (some i) j).bind f) Q := by
  unfold aR
  rw [Option.bind_some, if_pos ⟨by rw [K.2], by rw [K.2]; exact gin_of h0 h1⟩]
  have h9 := (H.2 i K.1 hx j.toNatClampNeg).1
  rw [K.2, show q_tR (25, n) j.toNatClampNeg = (2, 6, 0) from if_pos (clamp_lt h0 h1)] at h9
  rcases h9 with (h9 | ⟨h9, j, e, Kj⟩) | (⟨h9, h2⟩ | ⟨h9, h2⟩)
  · exact absurd h9 (by simp)
  · exact absurd h9 (by simp)
  · exact h _ h2
  · exact absurd h9 (by simp)
theorem i_ofNat {n : Nat} (h : n ≤ 2000000000) : (Int32.ofNat n).toInt = (n : Int) := by
  rw [Int32.toInt_ofNat_of_lt (by omega)]
theorem c_aN {t i n : Nat} {M : gM} {β : Type} {f : Int32 → Option β} {Q : β → Prop} (K : q_Kd M i (t, n)) (ht : 20 ≤ t ∧ t < 27) (hn : n ≤ 401) (h : ∀ v : Int32, v.toInt = (n : Int) → Ok (f v) Q) : Ok ((aN M (some i)).bind f) Q := by
  unfold aN
  rw [Option.bind_some, if_pos (by rw [K.2]; exact ht), K.2]
  exact h _ (i_ofNat (by omega))
theorem c_gch {j : Int32} {β : Type} {f : Int32 → Option β} {Q : β → Prop} (h0 : 0 ≤ j.toInt) (h1 : j.toInt < 116) (h : ∀ v : Int32, Ok (f v) Q) : Ok ((gch (some 1) j).bind f) Q := by
  unfold gch
  rw [if_pos ⟨rfl, gin_of h0 (by exact_mod_cast h1)⟩]
  exact h _
/-! writes -/
theorem q_upd {x : Nat} {M M' : gM} {i : Nat} {q : Nat × Nat} (H : q_HT x M) (K : q_Kd M i q) (h1 : M'.1 = M.1) (hI : ∀ j, j ≠ i → M'.2.1 j = M.2.1 j) (hR : ∀ j, j ≠ i → M'.2.2.2 j = M.2.2.2 j)
    (ok : i ≠ x → ∀ k, q_okR M (q_tR q k) (M'.2.2.2 i k) ∧ ((q_tI q k).1 ≤ (M'.2.1 i k).toInt ∧ (M'.2.1 i k).toInt ≤ (q_tI q k).2)) : q_HT x M' := by
  have hk : ∀ j, g_k M' j = g_k M j := fun j => q_k_of h1
  have hm : ∀ j (s : Nat × Nat), q_Kd M j s → s.1 < 90 → q_Kd M' j s := fun j s h _ => ⟨h.1, by rw [hk]; exact h.2⟩
  refine ⟨⟨by rw [h1]; exact H.1.1, by rw [hk]; exact H.1.2⟩, fun j hj hx k => ?_⟩
  rw [hk]
  by_cases e : j = i
  · subst e
    rw [K.2]
    obtain ⟨a, b⟩ := ok hx k
    exact ⟨q_okR_mo q_tR_kd hm a, b⟩
  · obtain ⟨a, b⟩ := H.2 j hj hx k
    rw [hI j e, hR j e]
    exact ⟨q_okR_mo q_tR_kd hm a, b⟩
theorem q_updF {b : Nat → Bool} {x : Nat} {M M' : gM} {i : Nat} {q : Nat × Nat} (H : q_HT x M) (K : q_Kd M i q) (hq : q.1 < 30) (h1 : M'.1 = M.1) (hI : ∀ j, j ≠ i → M'.2.1 j = M.2.1 j) (hL : ∀ j, j ≠ i → M'.2.2.1 j = M.2.2.1 j) (hR : ∀ j, j ≠ i → M'.2.2.2 j = M.2.2.2 j)
    (pI : ∀ k, q_pI b q k = true → M'.2.1 i k = M.2.1 i k) (pR : ∀ k, q_pR q k = true → M'.2.2.2 i k = M.2.2.2 i k) : q_Fr b M M' := by
  have h0 := q_ne0 H K hq
  refine ⟨⟨by rw [h1]; exact Nat.le_refl _, fun j _ => q_k_of h1⟩, fun j hj => ?_, fun j _ k hk => ?_, fun j _ k hk => ?_⟩
  · have hne : j ≠ i := by
      rintro rfl
      rcases hj with hj | hj
      · exact hj K.1
      · exact h0 hj
    exact ⟨hI j hne, hL j hne, hR j hne⟩
  · by_cases e : j = i
    · subst e
      rw [K.2] at hk
      exact pI k hk
    · rw [hI j e]
  · by_cases e : j = i
    · subst e
      rw [K.2] at hk
      exact pR k hk
    · rw [hR j e]
theorem q_self {x : Nat} {M : gM} {i : Nat} {q : Nat × Nat} (H : q_HT x M) (K : q_Kd M i q) (hx : i ≠ x) (k : Nat) : q_okR M (q_tR q k) (M.2.2.2 i k) ∧ ((q_tI q k).1 ≤ (M.2.1 i k).toInt ∧ (M.2.1 i k).toInt ≤ (q_tI q k).2) := by
  have h := H.2 i K.1 hx k
  rw [K.2] at h
  exact h
theorem u_pI {b : Nat → Bool} {x i k : Nat} {q : Nat × Nat} {lo hi : Int} {M : gM} {v : Int32} (H : q_HT x M) (K : q_Kd M i q) (hq : q.1 < 30) (ht : q_tI q k = (lo, hi)) (hv : lo ≤ v.toInt ∧ v.toInt ≤ hi) (hp : q_pI b q k = false) : q_HT x (mI M i k v) ∧ q_Fr b M (mI M i k v) := by
  have e1 : ∀ j, j ≠ i → (mI M i k v).2.1 j = M.2.1 j := fun j hj => g_up_ne _ _ _ hj
  refine ⟨q_upd H K rfl e1 (fun _ _ => rfl) (fun hx k2 => ?_), q_updF H K hq rfl e1 (fun _ _ => rfl) (fun _ _ => rfl) (fun k2 hk2 => ?_) (fun _ _ => rfl)⟩
  · refine ⟨(q_self H K hx k2).1, ?_⟩
    show _ ≤ (g_up M.2.1 i k v i k2).toInt ∧ (g_up M.2.1 i k v i k2).toInt ≤ _
    unfold g_up
    rw [if_pos rfl]
    by_cases e : k2 = k
    · subst e
      rw [if_pos rfl, ht]
      exact hv
    · rw [if_neg e]
      exact (q_self H K hx k2).2
  · show g_up M.2.1 i k v i k2 = _
    unfold g_up
    rw [if_pos rfl]
    by_cases e : k2 = k
    · subst e
      rw [hp] at hk2
      cases hk2
    · rw [if_neg e]
theorem u_pL {b : Nat → Bool} {x i k : Nat} {q : Nat × Nat} {M : gM} {v : Int64} (H : q_HT x M) (K : q_Kd M i q) (hq : q.1 < 30) : q_HT x (mL M i k v) ∧ q_Fr b M (mL M i k v) :=
  ⟨q_upd H K rfl (fun _ _ => rfl) (fun _ _ => rfl) (fun hx k2 => q_self H K hx k2), q_updF H K hq rfl (fun _ _ => rfl) (fun j hj => g_up_ne _ _ _ hj) (fun _ _ => rfl) (fun _ _ => rfl) (fun _ _ => rfl)⟩
theorem u_pR {b : Nat → Bool} {x i k : Nat} {q : Nat × Nat} {M : gM} {v : Option Nat} (H : q_HT x M) (K : q_Kd M i q) (hq : q.1 < 30) (hv : q_okR M (q_tR q k) v) (hp : q_pR q k = false) : q_HT x (mR M i k v) ∧ q_Fr b M (mR M i k v) := by
  have e1 : ∀ j, j ≠ i → (mR M i k v).2.2.2 j = M.2.2.2 j := fun j hj => g_up_ne _ _ _ hj
  refine ⟨q_upd H K rfl (fun _ _ => rfl) e1 (fun hx k2 => ?_), q_updF H K hq rfl (fun _ _ => rfl) (fun _ _ => rfl) e1 (fun _ _ => rfl) (fun k2 hk2 => ?_)⟩
  · refine ⟨?_, (q_self H K hx k2).2⟩
    show q_okR M _ (g_up M.2.2.2 i k v i k2)
    unfold g_up
    rw [if_pos rfl]
    by_cases e : k2 = k
    · subst e
      rw [if_pos rfl]
      exact hv
    · rw [if_neg e]
      exact (q_self H K hx k2).1
  · show g_up M.2.2.2 i k v i k2 = _
    unfold g_up
    rw [if_pos rfl]
    by_cases e : k2 = k
    · subst e
      rw [hp] at hk2
      cases hk2
    · rw [if_neg e]
theorem u_row {b : Nat → Bool} {x i n : Nat} {M : gM} {g : Nat → Int32} (H : q_HT x M) (K : q_Kd M i (20, n)) : q_HT x (M.1, g_row M.2.1 i g, M.2.2.1, M.2.2.2) ∧ q_Fr b M (M.1, g_row M.2.1 i g, M.2.2.1, M.2.2.2) := by
  have e1 : ∀ j, j ≠ i → g_row M.2.1 i g j = M.2.1 j := fun j hj => g_row_ne _ _ hj
  refine ⟨q_upd H K rfl e1 (fun _ _ => rfl) (fun hx k2 => ?_), q_updF H K (Nat.le_of_ble_eq_true rfl) rfl e1 (fun _ _ => rfl) (fun _ _ => rfl) (fun k2 hk2 => ?_) (fun _ _ => rfl)⟩
  · refine ⟨(q_self H K hx k2).1, ?_⟩
    rw [q_tI_full (Nat.le_of_ble_eq_true rfl)]
    exact i_rng _
  · exfalso
    unfold q_pI at hk2
    simp at hk2
theorem q_pI20 {b : Nat → Bool} {n k : Nat} : q_pI b (20, n) k = false := by
  unfold q_pI
  simp
theorem q_pI22 {b : Nat → Bool} {n k : Nat} (h : b 100 = false) : q_pI b (22, n) k = false := by
  unfold q_pI
  rw [h]
  simp
theorem c_pI {b : Nat → Bool} {x c i k : Nat} {lo hi : Int} {M : gM} {v : Int32} {β : Type} {f : gM → Option β} {Q : β → Prop} (H : q_HT x M) (K : q_Kd M i (c, 0)) (hq : c < 30) (ht : q_tI (c, 0) k = (lo, hi)) (hv : lo ≤ v.toInt ∧ v.toInt ≤ hi) (hp : q_pI b (c, 0) k = false) (h : ∀ M', q_HT x M' → q_Fr b M M' → M'.2.1 i k = v → (∀ j a, j ≠ i ∨ a ≠ k → M'.2.1 j a = M.2.1 j a) → M'.2.2.2 = M.2.2.2 → Ok (f M') Q) : Ok ((pI c M (some i) k v).bind f) Q := by
  unfold pI
  rw [Option.bind_some, if_pos K.2]
  obtain ⟨a, e⟩ := u_pI (b := b) H K hq ht hv hp
  refine h _ a e (by show g_up _ _ _ _ _ _ = _; unfold g_up; rw [if_pos rfl, if_pos rfl]) (fun j a hja => ?_) rfl
  show g_up _ _ _ _ _ _ = _
  unfold g_up
  by_cases e1 : j = i
  · subst e1
    rw [if_pos rfl, if_neg (fun z => hja.elim (fun y => y rfl) (fun y => y z))]
  · rw [if_neg e1]
theorem c_pL {b : Nat → Bool} {x c i k : Nat} {M : gM} {v : Int64} {β : Type} {f : gM → Option β} {Q : β → Prop} (H : q_HT x M) (K : q_Kd M i (c, 0)) (hq : c < 30) (h : ∀ M', q_HT x M' → q_Fr b M M' → Ok (f M') Q) : Ok ((pL c M (some i) k v).bind f) Q := by
  unfold pL
  rw [Option.bind_some, if_pos K.2]
  obtain ⟨a, e⟩ := u_pL (b := b) (k := k) (v := v) H K hq
  exact h _ a e
theorem c_pR {b : Nat → Bool} {x c i k j : Nat} {q : Nat × Nat} {M : gM} {β : Type} {f : gM → Option β} {Q : β → Prop} (H : q_HT x M) (K : q_Kd M i (c, 0)) (hq : c < 30) (ht : q_tR (c, 0) k = (1, q)) (hv : q_Kd M j q) (hp : q_pR (c, 0) k = false) (h : ∀ M', q_HT x M' → q_Fr b M M' → Ok (f M') Q) : Ok ((pR c M (some i) k (some j)).bind f) Q := by
  unfold pR
  rw [Option.bind_some, if_pos K.2]
  obtain ⟨a, e⟩ := u_pR (b := b) (k := k) (v := some j) H K hq (by rw [ht]; exact Or.inl (Or.inr ⟨rfl, j, rfl, hv⟩)) hp
  exact h _ a e
theorem c_sI {b : Nat → Bool} {x i n : Nat} {j v : Int32} {M : gM} {β : Type} {f : gM → Option β} {Q : β → Prop} (H : q_HT x M) (K : q_Kd M i (20, n)) (h0 : 0 ≤ j.toInt) (h1 : j.toInt < (n : Int)) (h : ∀ M', q_HT x M' → q_Fr b M M' → (∀ a, a ≠ i → M'.2.1 a = M.2.1 a) → M'.2.2.2 = M.2.2.2 → Ok (f M') Q) : Ok ((sI M (some i) j v).bind f) Q := by
  unfold sI
  rw [Option.bind_some, if_pos ⟨by rw [K.2], by rw [K.2]; exact gin_of h0 h1⟩]
  obtain ⟨a, e⟩ := u_pI (b := b) (k := j.toNatClampNeg) (v := v) H K (Nat.le_of_ble_eq_true rfl) (q_tI_full (Nat.le_of_ble_eq_true rfl)) (i_rng v) q_pI20
  exact h _ a e (fun z hz => g_up_ne _ _ _ hz) rfl
theorem c_sB {b : Nat → Bool} {x i n : Nat} {j v : Int32} {M : gM} {β : Type} {f : gM → Option β} {Q : β → Prop} (hb : b 100 = false) (H : q_HT x M) (K : q_Kd M i (22, n)) (h0 : 0 ≤ j.toInt) (h1 : j.toInt < (n : Int)) (h : ∀ M', q_HT x M' → q_Fr b M M' → (∀ a, a ≠ i → M'.2.1 a = M.2.1 a) → M'.2.2.2 = M.2.2.2 → Ok (f M') Q) : Ok ((sB M (some i) j v).bind f) Q := by
  unfold sB
  rw [Option.bind_some, if_pos ⟨by rw [K.2], by rw [K.2]; exact gin_of h0 h1⟩]
  obtain ⟨a, e⟩ := u_pI (b := b) (k := j.toNatClampNeg) (v := v.toInt8.toInt32) H K (Nat.le_of_ble_eq_true rfl) (q_tI_full (Nat.le_of_ble_eq_true rfl)) (i_rng _) (q_pI22 hb)
  exact h _ a e (fun z hz => g_up_ne _ _ _ hz) rfl
theorem c_sL {b : Nat → Bool} {x i n : Nat} {j : Int32} {v : Int64} {M : gM} {β : Type} {f : gM → Option β} {Q : β → Prop} (H : q_HT x M) (K : q_Kd M i (21, n)) (h0 : 0 ≤ j.toInt) (h1 : j.toInt < (n : Int)) (h : ∀ M', q_HT x M' → q_Fr b M M' → (∀ a, a ≠ i → M'.2.1 a = M.2.1 a) → M'.2.2.2 = M.2.2.2 → Ok (f M') Q) : Ok ((sL M (some i) j v).bind f) Q := by
  unfold sL
  rw [Option.bind_some, if_pos ⟨by rw [K.2], by rw [K.2]; exact gin_of h0 h1⟩]
  obtain ⟨a, e⟩ := u_pL (b := b) (k := j.toNatClampNeg) (v := v) H K (Nat.le_of_ble_eq_true rfl)
  exact h _ a e (fun _ _ => rfl) rfl
theorem c_sR25 {b : Nat → Bool} {x i n y : Nat} {j : Int32} {M : gM} {β : Type} {f : gM → Option β} {Q : β → Prop} (H : q_HT x M) (K : q_Kd M i (25, n)) (hv : q_Kd M y (6, 0)) (h0 : 0 ≤ j.toInt) (h1 : j.toInt < (n : Int)) (h : ∀ M', q_HT x M' → q_Fr b M M' → M'.2.1 = M.2.1 → Ok (f M') Q) : Ok ((sR 25 M (some i) j (some y)).bind f) Q := by
  unfold sR
  rw [Option.bind_some, Option.bind_some, if_pos ⟨⟨by rw [K.2], by rw [K.2]; exact gin_of h0 h1⟩, hv.2⟩]
  obtain ⟨a, e⟩ := u_pR (b := b) (k := j.toNatClampNeg) (v := some y) H K (Nat.le_of_ble_eq_true rfl) (by rw [show q_tR (25, n) j.toNatClampNeg = (2, 6, 0) from if_pos (clamp_lt h0 h1)]; exact Or.inr (Or.inl ⟨rfl, Or.inr ⟨y, rfl, hv⟩⟩)) (by unfold q_pR; simp)
  exact h _ a e rfl
theorem c_cpI {b : Nat → Bool} {x i i2 n n2 : Nat} {sp dp m : Int32} {M : gM} {β : Type} {f : gM → Option β} {Q : β → Prop} (H : q_HT x M) (K : q_Kd M i (20, n)) (K2 : q_Kd M i2 (20, n2)) (h0 : 0 ≤ sp.toInt) (h1 : 0 ≤ dp.toInt) (h2 : 0 ≤ m.toInt) (h3 : sp.toInt + m.toInt ≤ (n : Int)) (h4 : dp.toInt + m.toInt ≤ (n2 : Int)) (h : ∀ M', q_HT x M' → q_Fr b M M' → Ok (f M') Q) : Ok ((cpI M (some i) sp (some i2) dp m).bind f) Q := by
  unfold cpI
  have a0 := i_clamp h0
  have a1 := i_clamp h1
  have a2 := i_clamp h2
  have z : (0 : Int32).toInt = 0 := rfl
  rw [Option.bind_some, Option.bind_some, if_pos ⟨⟨by rw [K.2], by rw [K2.2]⟩, ⟨⟨fun e => by have := i_lt e; omega, fun e => by have := i_lt e; omega⟩, fun e => by have := i_lt e; omega⟩, by rw [K.2]; dsimp only; omega, by rw [K2.2]; dsimp only; omega⟩]
  obtain ⟨a, e⟩ := u_row (b := b) (g := va_cpy (M.2.1 i) (M.2.1 i2) sp.toNatClampNeg dp.toNatClampNeg m.toNatClampNeg) H K2
  exact h _ a e
/-! new places -/
theorem g_k_app {M M' : gM} {q : Nat × Nat} (h1 : M'.1 = M.1 ++ [q]) : (∀ i, i < M.1.length → g_k M' i = g_k M i) ∧ g_k M' M.1.length = q := by
  refine ⟨fun i hi => ?_, ?_⟩
  · unfold g_k
    rw [h1, List.getD_eq_getElem?_getD, List.getD_eq_getElem?_getD, List.getElem?_append_left hi]
  · unfold g_k
    rw [h1, List.getD_eq_getElem?_getD, List.getElem?_append_right (Nat.le_refl _), Nat.sub_self]
    rfl
theorem u_app {b : Nat → Bool} {x : Nat} {M M' : gM} {q : Nat × Nat} (H : q_HT x M) (h1 : M'.1 = M.1 ++ [q]) (hI : ∀ j, j ≠ M.1.length → M'.2.1 j = M.2.1 j) (hL : ∀ j, j ≠ M.1.length → M'.2.2.1 j = M.2.2.1 j) (hR : ∀ j, j ≠ M.1.length → M'.2.2.2 j = M.2.2.2 j)
    (ok : M.1.length ≠ x → ∀ k, q_okR M (q_tR q k) (M'.2.2.2 M.1.length k) ∧ ((q_tI q k).1 ≤ (M'.2.1 M.1.length k).toInt ∧ (M'.2.1 M.1.length k).toInt ≤ (q_tI q k).2)) : q_HT x M' ∧ q_Fr b M M' ∧ q_Kd M' M.1.length q := by
  obtain ⟨k1, k2⟩ := g_k_app h1
  have hlen := H.1.1
  have hF : q_Fr b M M' := by
    refine ⟨⟨by rw [h1]; simp, k1⟩, fun j hj => ?_, fun j hj k _ => ?_, fun j hj k _ => ?_⟩
    · have hne : j ≠ M.1.length := by
        rintro rfl
        rcases hj with hj | hj
        · exact hj (Or.inr hlen)
        · omega
      exact ⟨hI j hne, hL j hne, hR j hne⟩
    · rw [hI j (Nat.ne_of_lt hj)]
    · rw [hR j (Nat.ne_of_lt hj)]
  refine ⟨⟨⟨by rw [h1]; simp; omega, by rw [k1 0 (by omega)]; exact H.1.2⟩, fun j hj hx k => ?_⟩, hF, ⟨Or.inr hlen, k2⟩⟩
  rcases Nat.lt_trichotomy j M.1.length with e | e | e
  · rw [k1 j e, hI j (Nat.ne_of_lt e), hR j (Nat.ne_of_lt e)]
    obtain ⟨a, c⟩ := H.2 j hj hx k
    exact ⟨q_okR_mo q_tR_kd (fun i q K hq => q_mo K hq hF) a, c⟩
  · subst e
    rw [k2]
    obtain ⟨a, c⟩ := ok hx k
    exact ⟨q_okR_mo q_tR_kd (fun i q K hq => q_mo K hq hF) a, c⟩
  · have e9 : g_k M' j = (99, 0) := by
      unfold g_k
      rw [h1, List.getD_eq_getElem?_getD, List.getElem?_eq_none (by simp; omega)]
      rfl
    have hk9 : g_k M j = (99, 0) := by
      unfold g_k
      rw [List.getD_eq_getElem?_getD, List.getElem?_eq_none (by omega)]
      rfl
    rw [e9, hI j (by omega), hR j (by omega)]
    have h := H.2 j hj hx k
    rw [hk9] at h
    exact ⟨q_okR_mo q_tR_kd (fun i q K hq => q_mo K hq hF) h.1, h.2⟩
theorem u_nwA {b : Nat → Bool} {x t n : Nat} {M : gM} (H : q_HT x M) (ht : 20 ≤ t ∧ t < 24) : q_HT x (nw (t, n) M) ∧ q_Fr b M (nw (t, n) M) ∧ q_Kd (nw (t, n) M) M.1.length (t, n) := by
  refine u_app H rfl (fun j hj => g_row_ne _ _ hj) (fun j hj => g_row_ne _ _ hj) (fun j hj => g_row_ne _ _ hj) (fun _ k => ?_)
  rw [q_tR_none (by dsimp only; omega) (by dsimp only; omega), q_tI_full (by dsimp only; omega)]
  exact ⟨Or.inl (Or.inl rfl), i_rng _⟩
theorem u_hole {b : Nat → Bool} {t n : Nat} {M : gM} (H : q_HT 0 M) : q_HT M.1.length (nw (t, n) M) ∧ q_Fr b M (nw (t, n) M) ∧ q_Kd (nw (t, n) M) M.1.length (t, n) := by
  refine u_app ⟨H.1, fun i hi hx k => ?_⟩ rfl (fun j hj => g_row_ne _ _ hj) (fun j hj => g_row_ne _ _ hj) (fun j hj => g_row_ne _ _ hj) (fun e => absurd rfl e)
  by_cases h0 : i = 0
  · subst h0
    rw [q_tR_none (by rw [H.1.2]; decide) (by rw [H.1.2]; decide), q_tI_full (by rw [H.1.2]; decide)]
    exact ⟨Or.inl (Or.inl rfl), i_rng _⟩
  · exact H.2 i hi h0 k
theorem q_fill {x : Nat} {M : gM} (H : q_HT x M) (h : ∀ k, q_okR M (q_tR (g_k M x) k) (M.2.2.2 x k) ∧ ((q_tI (g_k M x) k).1 ≤ (M.2.1 x k).toInt ∧ (M.2.1 x k).toInt ≤ (q_tI (g_k M x) k).2)) : q_HT 0 M := by
  refine ⟨H.1, fun i hi _ k => ?_⟩
  by_cases e : i = x
  · subst e
    exact h k
  · exact H.2 i hi e k
/-! what is owed of a call -/
def q_PV (b : Nat → Bool) (M : gM) : gM → Prop := fun M' => q_HT 0 M' ∧ q_Fr b M M'
def q_PI (b : Nat → Bool) (M : gM) (lo hi : Int) : Int32 × gM → Prop := fun r => (lo ≤ r.1.toInt ∧ r.1.toInt ≤ hi) ∧ (q_HT 0 r.2 ∧ q_Fr b M r.2)
def q_PJ (b : Nat → Bool) (M : gM) : Int64 × gM → Prop := fun r => q_HT 0 r.2 ∧ q_Fr b M r.2
def q_PN (b : Nat → Bool) (M : gM) (q : Nat × Nat) : Option Nat × gM → Prop := fun r => (r.1 = none ∨ ∃ i, r.1 = some i ∧ q_Kd r.2 i q) ∧ (q_HT 0 r.2 ∧ q_Fr b M r.2)
def q_pi (lo hi : Int) : Int32 → Prop := fun r => lo ≤ r.toInt ∧ r.toInt ≤ hi
def q_pj : Int64 → Prop := fun _ => True
def q_pn (M : gM) (q : Nat × Nat) : Option Nat → Prop := fun r => r = none ∨ ∃ i, r = some i ∧ q_Kd M i q
theorem w_PV {b : Nat → Bool} {M M1 : gM} {o : Option gM} (f : q_Fr b M M1) (h : Ok o (q_PV b M1)) : Ok o (q_PV b M) := Ok_w h (fun _ z => ⟨z.1, q_tr f z.2⟩)
theorem w_PI {b : Nat → Bool} {M M1 : gM} {o : Option (Int32 × gM)} {lo hi lo2 hi2 : Int} (f : q_Fr b M M1) (h : Ok o (q_PI b M1 lo hi)) (h1 : lo2 ≤ lo) (h2 : hi ≤ hi2) : Ok o (q_PI b M lo2 hi2) := Ok_w h (fun _ z => ⟨⟨Int.le_trans h1 z.1.1, Int.le_trans z.1.2 h2⟩, z.2.1, q_tr f z.2.2⟩)
theorem w_PJ {b : Nat → Bool} {M M1 : gM} {o : Option (Int64 × gM)} (f : q_Fr b M M1) (h : Ok o (q_PJ b M1)) : Ok o (q_PJ b M) := Ok_w h (fun _ z => ⟨z.1, q_tr f z.2⟩)
theorem w_PN {b : Nat → Bool} {M M1 : gM} {q : Nat × Nat} {o : Option (Option Nat × gM)} (f : q_Fr b M M1) (h : Ok o (q_PN b M1 q)) : Ok o (q_PN b M q) := Ok_w h (fun _ z => ⟨z.1, z.2.1, q_tr f z.2.2⟩)
theorem w_pi {o : Option Int32} {lo hi lo2 hi2 : Int} (h : Ok o (q_pi lo hi)) (h1 : lo2 ≤ lo) (h2 : hi ≤ hi2) : Ok o (q_pi lo2 hi2) := Ok_w h (fun _ z => ⟨Int.le_trans h1 z.1, Int.le_trans z.2 h2⟩)
theorem q_un {v : Int32} {lo hi : Int} (h : q_pi lo hi v) : lo ≤ v.toInt ∧ v.toInt ≤ hi := h
theorem q_fu {a : Int} (h : a < 1000000000) : a < ((g_fuel : Nat) : Int) := h
/-! the same without a hole -/
theorem d_gI {c i k : Nat} {lo hi : Int} {M : gM} {β : Type} {f : Int32 → Option β} {Q : β → Prop} (H : q_HT 0 M) (K : q_Kd M i (c, 0)) (hc : c < 30) (ht : q_tI (c, 0) k = (lo, hi)) (h : ∀ v : Int32, M.2.1 i k = v → (lo ≤ v.toInt ∧ v.toInt ≤ hi) → Ok (f v) Q) : Ok ((gI c M (some i) k).bind f) Q := c_gI H K (q_ne0 H K hc) ht h
theorem d_gR {c i k : Nat} {q : Nat × Nat} {M : gM} {β : Type} {f : Option Nat → Option β} {Q : β → Prop} (H : q_HT 0 M) (K : q_Kd M i (c, 0)) (hc : c < 30) (ht : q_tR (c, 0) k = (1, q)) (h : ∀ j : Nat, M.2.2.2 i k = some j → q_Kd M j q → Ok (f (some j)) Q) : Ok ((gR c M (some i) k).bind f) Q := c_gR H K (q_ne0 H K hc) ht h
theorem d_gRn {c i k : Nat} {q : Nat × Nat} {M : gM} {β : Type} {f : Option Nat → Option β} {Q : β → Prop} (H : q_HT 0 M) (K : q_Kd M i (c, 0)) (hc : c < 30) (ht : q_tR (c, 0) k = (2, q)) (h : ∀ r : Option Nat, (r = none ∨ ∃ j, r = some j ∧ q_Kd M j q) → Ok (f r) Q) : Ok ((gR c M (some i) k).bind f) Q := c_gRn H K (q_ne0 H K hc) ht h
theorem d_gR3 {c i k t : Nat} {z : Nat} {M : gM} {β : Type} {f : Option Nat → Option β} {Q : β → Prop} (H : q_HT 0 M) (K : q_Kd M i (c, 0)) (hc : c < 30) (ht : q_tR (c, 0) k = (3, t, z)) (h : ∀ j n : Nat, q_Kd M j (t, n) → n ≤ 400 → Ok (f (some j)) Q) : Ok ((gR c M (some i) k).bind f) Q := c_gR3 H K (q_ne0 H K hc) ht h
theorem d_aR24 {i n : Nat} {j : Int32} {M : gM} {β : Type} {f : Option Nat → Option β} {Q : β → Prop} (H : q_HT 0 M) (K : q_Kd M i (24, n)) (h0 : 0 ≤ j.toInt) (h1 : j.toInt < (n : Int)) (h : ∀ a : Nat, q_Kd M a (8, 0) → Ok (f (some a)) Q) : Ok ((aR 24 M (some i) j).bind f) Q := c_aR24 H K (q_ne0 H K (by dsimp only; omega)) h0 h1 h
theorem d_aR25 {i n : Nat} {j : Int32} {M : gM} {β : Type} {f : Option Nat → Option β} {Q : β → Prop} (H : q_HT 0 M) (K : q_Kd M i (25, n)) (h0 : 0 ≤ j.toInt) (h1 : j.toInt < (n : Int)) (h : ∀ r : Option Nat, (r = none ∨ ∃ a, r = some a ∧ q_Kd M a (6, 0)) → Ok (f r) Q) : Ok ((aR 25 M (some i) j).bind f) Q := c_aR25 H K (q_ne0 H K (by dsimp only; omega)) h0 h1 h
theorem d_aR26 {i n : Nat} {j : Int32} {M : gM} {β : Type} {f : Option Nat → Option β} {Q : β → Prop} (H : q_HT 0 M) (K : q_Kd M i (26, n)) (h0 : 0 ≤ j.toInt) (h1 : j.toInt < (n : Int)) (h : ∀ a : Nat, q_Kd M a (3, 0) → Ok (f (some a)) Q) : Ok ((aR 26 M (some i) j).bind f) Q := c_aR26 H K (q_ne0 H K (by dsimp only; omega)) h0 h1 h
/-! ends -/
theorem r_PV {b : Nat → Bool} {M M' : gM} (H : q_HT 0 M') (f : q_Fr b M M') : Ok (some M') (q_PV b M) := Ok_s ⟨H, f⟩
theorem r_PI {b : Nat → Bool} {M M' : gM} {v : Int32} {lo hi : Int} (h : lo ≤ v.toInt ∧ v.toInt ≤ hi) (H : q_HT 0 M') (f : q_Fr b M M') : Ok (some (v, M')) (q_PI b M lo hi) := Ok_s ⟨h, H, f⟩
theorem r_PJ {b : Nat → Bool} {M M' : gM} {v : Int64} (H : q_HT 0 M') (f : q_Fr b M M') : Ok (some (v, M')) (q_PJ b M) := Ok_s ⟨H, f⟩
theorem r_PN0 {b : Nat → Bool} {M M' : gM} {q : Nat × Nat} (H : q_HT 0 M') (f : q_Fr b M M') : Ok (some ((none : Option Nat), M')) (q_PN b M q) := Ok_s ⟨Or.inl rfl, H, f⟩
theorem r_PN1 {b : Nat → Bool} {M M' : gM} {q : Nat × Nat} {i : Nat} (K : q_Kd M' i q) (H : q_HT 0 M') (f : q_Fr b M M') : Ok (some (some i, M')) (q_PN b M q) := Ok_s ⟨Or.inr ⟨i, rfl, K⟩, H, f⟩
theorem r_pi {v : Int32} {lo hi : Int} (h : lo ≤ v.toInt ∧ v.toInt ≤ hi) : Ok (some v) (q_pi lo hi) := Ok_s h
theorem r_pj {v : Int64} : Ok (some v) q_pj := Ok_s trivial
theorem r_pn {M : gM} {r : Option Nat} {q : Nat × Nat} (h : r = none ∨ ∃ i, r = some i ∧ q_Kd M i q) : Ok (some r) (q_pn M q) := Ok_s h
theorem Ok_t {c : Prop} [Decidable c] {α : Type} {a b : Option α} {P : α → Prop} (hc : c) (h : Ok a P) : Ok (if c then a else b) P := by
  rw [if_pos hc]; exact h
theorem Ok_e {c : Prop} [Decidable c] {α : Type} {a b : Option α} {P : α → Prop} (hc : ¬ c) (h : Ok b P) : Ok (if c then a else b) P := by
  rw [if_neg hc]; exact h
theorem i_01 {v : Int32} (h : 0 ≤ v.toInt ∧ v.toInt ≤ 1) : v = 0 ∨ v = 1 := by
  have z0 : (0 : Int32).toInt = 0 := rfl
  have z1 : (1 : Int32).toInt = 1 := rfl
  rcases (by omega : v.toInt = 0 ∨ v.toInt = 1) with e | e
  · exact Or.inl (Int32.toInt_inj.mp (e.trans z0.symm))
  · exact Or.inr (Int32.toInt_inj.mp (e.trans z1.symm))
theorem i_nz {v : Int32} (h : v.toInt ≠ 0) : ¬ v = 0 := fun e => h (by rw [e]; rfl)
theorem i_addc {x c : Int32} {n : Int} (hc : c.toInt = n) (h1 : -2147483648 ≤ x.toInt + n) (h2 : x.toInt + n ≤ 2147483647) : (x + c).toInt = x.toInt + n := by
  subst hc
  exact i_add h1 h2
theorem i_cadd {x c : Int32} {n : Int} (hc : c.toInt = n) (h1 : -2147483648 ≤ n + x.toInt) (h2 : n + x.toInt ≤ 2147483647) : (c + x).toInt = n + x.toInt := by
  subst hc
  exact i_add h1 h2
theorem i_subc {x c : Int32} {n : Int} (hc : c.toInt = n) (h1 : -2147483648 ≤ x.toInt - n) (h2 : x.toInt - n ≤ 2147483647) : (x - c).toInt = x.toInt - n := by
  subst hc
  exact i_sub h1 h2
theorem i_csub {x c : Int32} {n : Int} (hc : c.toInt = n) (h1 : -2147483648 ≤ n - x.toInt) (h2 : n - x.toInt ≤ 2147483647) : (c - x).toInt = n - x.toInt := by
  subst hc
  exact i_sub h1 h2
theorem i_mod {x c : Int32} {n : Int} (hc : c.toInt = n) (hn : 0 < n) (hx : 0 ≤ x.toInt) : (x - x / c * c).toInt = x.toInt % n := by
  have r := i_rng x
  have d := i_div hc hn hx
  have e : x.toInt % n = x.toInt - n * (x.toInt / n) := Int.emod_def _ _
  have e1 : 0 ≤ x.toInt % n := Int.emod_nonneg _ (by omega)
  have e0 : 0 ≤ x.toInt / n := Int.ediv_nonneg hx (by omega)
  have h0 : 0 ≤ n * (x.toInt / n) := Int.mul_nonneg (by omega) e0
  have e2 : (x / c * c).toInt = n * (x.toInt / n) := by
    have h := i_mulR (c := c) (x := x / c) hc (by rw [d]; omega) (by rw [d]; omega)
    rw [h, d]
  have e3 : (x - x / c * c).toInt = x.toInt - (x / c * c).toInt := i_sub (by rw [e2]; omega) (by rw [e2]; omega)
  rw [e3, e2, e]
theorem i_modV {x c : Int32} (hn : 0 < c.toInt) (hx : 0 ≤ x.toInt) : 0 ≤ (x - x / c * c).toInt ∧ (x - x / c * c).toInt < c.toInt := by
  rw [i_mod rfl hn hx]
  exact ⟨Int.emod_nonneg _ (by omega), Int.emod_lt_of_pos _ hn⟩
theorem i_andc {a : Int32} {m : Int32} {n : Nat} (hm : m.toBitVec.toNat = n) (hn : n < 2147483648) : 0 ≤ (a &&& m).toInt ∧ (a &&& m).toInt ≤ (n : Int) := by
  have e : (a &&& m).toBitVec.toNat = a.toBitVec.toNat &&& m.toBitVec.toNat := by
    rw [Int32.toBitVec_and, BitVec.toNat_and]
  have e2 : a.toBitVec.toNat &&& m.toBitVec.toNat ≤ n := by
    rw [hm]
    exact Nat.and_le_right
  have e3 : (a &&& m).toInt = ((a &&& m).toBitVec.toNat : Int) := by
    show (a &&& m).toBitVec.toInt = _
    rw [BitVec.toInt_eq_toNat_of_lt]
    omega
  rw [e3]
  omega
theorem i_shl1 {v : Int32} (h : 0 ≤ v.toInt ∧ v.toInt ≤ 7) : 1 ≤ ((1 : Int32) <<< (v &&& 31)).toInt ∧ ((1 : Int32) <<< (v &&& 31)).toInt ≤ 128 := by
  have hv : v = Int32.ofInt v.toInt := (Int32.ofInt_toInt v).symm
  rcases (by omega : v.toInt = 0 ∨ v.toInt = 1 ∨ v.toInt = 2 ∨ v.toInt = 3 ∨ v.toInt = 4 ∨ v.toInt = 5 ∨ v.toInt = 6 ∨ v.toInt = 7) with e | e | e | e | e | e | e | e <;> (rw [hv, e]; decide)
theorem i_nzJ {v : Int64} (h : ¬ lg_cmp v (0 : Int64) = 0) : ¬ v = 0 := fun e => h (by rw [e]; decide)
/-! a new House -/
theorem S_newHouse {b : Nat → Bool} {M : gM} (H : q_HT 0 M) : Ok (F_X1_init M.1.length (nw (1, 0) M)) (fun M' => q_PV b M M' ∧ q_Kd M' M.1.length (1, 0)) := by
  obtain ⟨H0, f0, K0⟩ := u_hole (b := b) (t := 1) (n := 0) H
  delta F_X1_init F_X1_init_b0
  generalize hx : M.1.length = x at *
  have hp : ∀ {k : Nat}, q_pR (1, 0) k = false := fun {k} => by unfold q_pR; rfl
  have go : ∀ {k j : Nat} {M1 : gM} {β : Type} {f : gM → Option β} {Q : β → Prop}, q_HT x M1 → q_Kd M1 x (1, 0) → (∀ M', q_HT x M' → q_Fr b M1 M' → M'.2.2.2 x k = some j → (∀ a, a ≠ k → M'.2.2.2 x a = M1.2.2.2 x a) → q_Kd M' x (1, 0) → Ok (f M') Q) → Ok ((pR 1 M1 (some x) k (some j)).bind f) Q := by
    intro k j M1 β f Q H1 K1 h
    unfold pR
    rw [Option.bind_some, if_pos K1.2]
    refine h _ ?_ ?_ (by show g_up _ _ _ _ _ _ = _; simp [g_up]) (fun a ha => by show g_up _ _ _ _ _ _ = _; simp [g_up, ha]) ⟨K1.1, K1.2⟩
    · exact q_upd H1 K1 rfl (fun _ _ => rfl) (fun j hj => g_up_ne _ _ _ hj) (fun hx => absurd rfl hx)
    · exact q_updF H1 K1 (by decide) rfl (fun _ _ => rfl) (fun _ _ => rfl) (fun j hj => g_up_ne _ _ _ hj) (fun _ _ => rfl) (fun k2 hk2 => by rw [hp] at hk2; cases hk2)
  have goI : ∀ {k : Nat} {M1 : gM} {β : Type} {f : gM → Option β} {Q : β → Prop}, q_HT x M1 → q_Kd M1 x (1, 0) → (∀ M', q_HT x M' → q_Fr b M1 M' → M'.2.1 x k = 0 → (∀ a, a ≠ k → M'.2.1 x a = M1.2.1 x a) → M'.2.2.2 = M1.2.2.2 → q_Kd M' x (1, 0) → Ok (f M') Q) → Ok ((pI 1 M1 (some x) k (0 : Int32)).bind f) Q := by
    intro k M1 β f Q H1 K1 h
    unfold pI
    rw [Option.bind_some, if_pos K1.2]
    refine h _ ?_ ?_ (by show g_up _ _ _ _ _ _ = _; simp [g_up]) (fun a ha => by show g_up _ _ _ _ _ _ = _; simp [g_up, ha]) rfl ⟨K1.1, K1.2⟩
    · exact q_upd H1 K1 rfl (fun j hj => g_up_ne _ _ _ hj) (fun _ _ => rfl) (fun hx => absurd rfl hx)
    · exact q_updF H1 K1 (by decide) rfl (fun j hj => g_up_ne _ _ _ hj) (fun _ _ => rfl) (fun _ _ => rfl) (fun k2 hk2 => by exfalso; unfold q_pI at hk2; simp at hk2) (fun _ _ => rfl)
  have al : ∀ {M1 : gM}, q_HT x M1 → q_Kd M1 x (1, 0) → q_HT x (nw (20, 7) M1) ∧ q_Fr b M1 (nw (20, 7) M1) ∧ q_Kd (nw (20, 7) M1) M1.1.length (20, 7) ∧ q_Kd (nw (20, 7) M1) x (1, 0) ∧ (nw (20, 7) M1).2.1 x = M1.2.1 x ∧ (nw (20, 7) M1).2.2.2 x = M1.2.2.2 x := by
    intro M1 H1 K1
    obtain ⟨a, c, d⟩ := u_nwA (b := b) (t := 20) (n := 7) H1 (by decide)
    have hl : x ≠ M1.1.length := Nat.ne_of_lt (q_kl (by rw [K1.2]; decide))
    exact ⟨a, c, d, q_mo K1 (by decide) c, g_row_ne _ _ hl, g_row_ne _ _ hl⟩
  obtain ⟨Ha, fa, Ka, Kxa, Ia, Ra⟩ := al H0 K0
  refine go Ha Kxa (fun M1 H1 f1 e1 o1 K1 => ?_)
  have k1 := q_mo Ka (by decide) f1
  have F1 := q_tr f0 (q_tr fa f1)
  obtain ⟨Hb, fb, Kb, Kxb, Ib, Rb⟩ := al H1 K1
  refine go Hb Kxb (fun M2 H2 f2 e2 o2 K2 => ?_)
  have k2 := q_mo Kb (by decide) f2
  replace k1 := q_mo (q_mo k1 (by decide) fb) (by decide) f2
  have F2 := q_tr F1 (q_tr fb f2)
  obtain ⟨Hc, fc, Kc, Kxc, Ic, Rc⟩ := al H2 K2
  refine go Hc Kxc (fun M3 H3 f3 e3 o3 K3 => ?_)
  have k3 := q_mo Kc (by decide) f3
  replace k1 := q_mo (q_mo k1 (by decide) fc) (by decide) f3
  replace k2 := q_mo (q_mo k2 (by decide) fc) (by decide) f3
  have F3 := q_tr F2 (q_tr fc f3)
  obtain ⟨Hd, fd, Kd, Kxd, Id, Rd⟩ := al H3 K3
  refine go Hd Kxd (fun M4 H4 f4 e4 o4 K4 => ?_)
  have k4 := q_mo Kd (by decide) f4
  replace k1 := q_mo (q_mo k1 (by decide) fd) (by decide) f4
  replace k2 := q_mo (q_mo k2 (by decide) fd) (by decide) f4
  replace k3 := q_mo (q_mo k3 (by decide) fd) (by decide) f4
  have F4 := q_tr F3 (q_tr fd f4)
  obtain ⟨He, fe, Ke, Kxe, Ie, Re⟩ := al H4 K4
  refine go He Kxe (fun M5 H5 f5 e5 o5 K5 => ?_)
  have k5 := q_mo Ke (by decide) f5
  replace k1 := q_mo (q_mo k1 (by decide) fe) (by decide) f5
  replace k2 := q_mo (q_mo k2 (by decide) fe) (by decide) f5
  replace k3 := q_mo (q_mo k3 (by decide) fe) (by decide) f5
  replace k4 := q_mo (q_mo k4 (by decide) fe) (by decide) f5
  have F5 := q_tr F4 (q_tr fe f5)
  refine goI H5 K5 (fun M6 H6 f6 z5 p5 r6 K6 => ?_)
  refine goI H6 K6 (fun M7 H7 f7 z6 p6 r7 K7 => ?_)
  refine goI H7 K7 (fun M8 H8 f8 z7 p7 r8 K8 => ?_)
  refine goI H8 K8 (fun M9 H9 f9 z8 p8 r9 K9 => ?_)
  refine goI H9 K9 (fun MA HA f10 z9 p9 r10 KA => ?_)
  refine goI HA KA (fun MB HB f11 z10 p10 r11 KB => ?_)
  have F6 := q_tr f6 (q_tr f7 (q_tr f8 (q_tr f9 (q_tr f10 f11))))
  have rr : MB.2.2.2 = M5.2.2.2 := by rw [r11, r10, r9, r8, r7, r6]
  have n1 : MB.2.2.2 x 0 = some M.1.length ∨ True := Or.inr trivial
  have hB : q_HT 0 MB := by
    refine q_fill HB (fun k => ?_)
    rw [KB.2]
    refine ⟨?_, ?_⟩
    · rw [rr]
      match k with
      | 0 =>
        rw [o5 0 (by decide), Re, o4 0 (by decide), Rd, o3 0 (by decide), Rc, o2 0 (by decide), Rb, e1]
        exact Or.inl (Or.inr ⟨rfl, _, rfl, q_mo k1 (by decide) F6⟩)
      | 1 =>
        rw [o5 1 (by decide), Re, o4 1 (by decide), Rd, o3 1 (by decide), Rc, e2]
        exact Or.inl (Or.inr ⟨rfl, _, rfl, q_mo k2 (by decide) F6⟩)
      | 2 =>
        rw [o5 2 (by decide), Re, o4 2 (by decide), Rd, e3]
        exact Or.inl (Or.inr ⟨rfl, _, rfl, q_mo k3 (by decide) F6⟩)
      | 3 =>
        rw [o5 3 (by decide), Re, e4]
        exact Or.inl (Or.inr ⟨rfl, _, rfl, q_mo k4 (by decide) F6⟩)
      | 4 =>
        rw [e5]
        exact Or.inl (Or.inr ⟨rfl, _, rfl, q_mo k5 (by decide) F6⟩)
      | k + 5 => exact Or.inl (Or.inl rfl)
    · by_cases h5 : k = 5
      · subst h5
        rw [p10 5 (by decide), p9 5 (by decide), p8 5 (by decide), p7 5 (by decide), p6 5 (by decide), z5]
        decide
      by_cases h6 : k = 6
      · subst h6
        rw [p10 6 (by decide), p9 6 (by decide), p8 6 (by decide), p7 6 (by decide), z6]
        decide
      by_cases h7 : k = 7
      · subst h7
        rw [p10 7 (by decide), p9 7 (by decide), p8 7 (by decide), z7]
        decide
      have ef : q_tI (1, 0) k = (-2147483648, 2147483647) := by
        unfold q_tI
        dsimp only
        split <;> first | rfl | (simp at *; done) | (exfalso; simp_all; done)
      rw [ef]
      exact i_rng _
  exact Ok_s ⟨⟨hB, q_tr F5 F6⟩, KB⟩
def q_PX (M : gM) (lo hi : Int) (i : Nat) (w : Int32) : Int32 × gM → Prop := fun r => q_PI q_bd M lo hi r ∧ r.2.2.1 i 14 = w
theorem w_PX {M M1 : gM} {o : Option (Int32 × gM)} {lo hi lo2 hi2 : Int} {i : Nat} {w : Int32} (f : q_Fr q_bd M M1) (h : Ok o (q_PX M1 lo hi i w)) (h1 : lo2 ≤ lo) (h2 : hi ≤ hi2) : Ok o (q_PX M lo2 hi2 i w) := Ok_w h (fun _ z => ⟨⟨⟨Int.le_trans h1 z.1.1.1, Int.le_trans z.1.1.2 h2⟩, z.1.2.1, q_tr f z.1.2.2⟩, z.2⟩)
theorem r_PX {M M' : gM} {v : Int32} {lo hi : Int} {i : Nat} {w : Int32} (h : lo ≤ v.toInt ∧ v.toInt ≤ hi) (H : q_HT 0 M') (f : q_Fr q_bd M M') (e : M'.2.1 i 14 = w) : Ok (some (v, M')) (q_PX M lo hi i w) := Ok_s ⟨⟨h, H, f⟩, e⟩
/-! guards -/
def q_pg (P : Prop) : Int32 → Prop := fun r => (0 ≤ r.toInt ∧ r.toInt ≤ 1) ∧ (r.toInt ≠ 0 → P)
theorem S_X11_isHeir {l0 : Nat} {l1 : Int32} {M : gM} (H : q_HT 0 M) (K_l0 : q_Kd M l0 (11, 0)) : Ok (F_X11_isHeir (some l0) l1 M) (q_pg (0 ≤ l1.toInt ∧ l1.toInt ≤ 6)) := by
  delta F_X11_isHeir F_X11_isHeir_b0 F_X11_isHeir_b19
  refine Ok_i (fun c => ?_) (fun c => ?_)
  · exact Ok_s ⟨by decide, fun h => absurd rfl h⟩
  · refine d_gR (q := (1, 0)) H K_l0 (by decide) rfl (fun v1 r1 K1 => ?_)
    refine d_gI (lo := 0) (hi := 7) H K1 (by decide) rfl (fun v2 q2 e2 => ?_)
    refine Ok_i (fun c2 => ?_) (fun c2 => ?_)
    · exact Ok_s ⟨by decide, fun h => absurd rfl h⟩
    · have h1 := i_nlt c
      have h2 := i_nle c2
      have z : (0 : Int32).toInt = 0 := rfl
      exact Ok_s ⟨by decide, fun _ => by omega⟩
theorem S_X11_isThing {l0 : Nat} {l1 : Int32} {M : gM} (H : q_HT 0 M) (K_l0 : q_Kd M l0 (11, 0)) : Ok (F_X11_isThing (some l0) l1 M) (q_pg (0 ≤ l1.toInt ∧ l1.toInt ≤ 6)) := by
  delta F_X11_isThing F_X11_isThing_b0 F_X11_isThing_b19
  refine Ok_i (fun c => ?_) (fun c => ?_)
  · exact Ok_s ⟨by decide, fun h => absurd rfl h⟩
  · refine d_gR (q := (1, 0)) H K_l0 (by decide) rfl (fun v1 r1 K1 => ?_)
    refine d_gI (lo := 0) (hi := 7) H K1 (by decide) rfl (fun v2 q2 e2 => ?_)
    refine Ok_i (fun c2 => ?_) (fun c2 => ?_)
    · exact Ok_s ⟨by decide, fun h => absurd rfl h⟩
    · have h1 := i_nlt c
      have h2 := i_nle c2
      have z : (0 : Int32).toInt = 0 := rfl
      exact Ok_s ⟨by decide, fun _ => by omega⟩
theorem S_X11_isKnown {l0 : Nat} {l1 l2 : Int32} {M : gM} (H : q_HT 0 M) (K_l0 : q_Kd M l0 (11, 0)) : Ok (F_X11_isKnown (some l0) l1 l2 M) (q_pg ((0 ≤ l1.toInt ∧ l1.toInt ≤ 6) ∧ 0 ≤ l2.toInt ∧ l2.toInt ≤ 6)) := by
  delta F_X11_isKnown F_X11_isKnown_b0 F_X11_isKnown_b37
  have z : (0 : Int32).toInt = 0 := rfl
  refine c_gO K_l0 ?_
  refine Ok_b (S_X11_isHeir H K_l0) (fun v2 e2 => ?_)
  refine Ok_i (fun c => ?_) (fun c => ?_)
  · exact Ok_s ⟨by decide, fun h => absurd rfl h⟩
  have w1 := e2.2 (i_ne c)
  refine Ok_b (S_X11_isThing H K_l0) (fun v3 e3 => ?_)
  refine Ok_i (fun c2 => ?_) (fun c2 => ?_)
  · exact Ok_s ⟨by decide, fun h => absurd rfl h⟩
  have w2 := e3.2 (i_ne c2)
  refine d_gR (q := (8, 0)) H K_l0 (by decide) rfl (fun v4 r4 K4 => ?_)
  refine d_gR (q := (20, 49)) H K4 (by decide) rfl (fun v5 r5 K5 => ?_)
  have a1 := i_mulR (x := l1) (c := (7 : Int32)) (n := 7) rfl (by omega) (by omega)
  have a2 := i_add (x := l1 * (7 : Int32)) (y := l2) (by omega) (by omega)
  refine c_aI K5 (by omega) (by omega) (fun v6 => ?_)
  refine Ok_i (fun c3 => ?_) (fun c3 => ?_)
  · exact Ok_s ⟨by decide, fun h => absurd rfl h⟩
  · exact Ok_s ⟨by decide, fun _ => ⟨w1, w2⟩⟩
