/-! bits -/
theorem is_get {a v : Int32} {k : Nat} (h : v.toInt = (k : Int)) (hk : k ≤ 9) : hs_is a v = if a.toBitVec.getLsbD k = true then 1 else 0 := by
  have hv : v = Int32.ofNat k := i_of h (by omega)
  subst hv
  have key : ∀ s : Nat, s < 32 → (a.toBitVec.sshiftRight s &&& 1#32) = if a.toBitVec.getLsbD s = true then 1#32 else 0#32 := by
    intro s hs
    refine BitVec.eq_of_getLsbD_eq (fun i hi => ?_)
    rw [BitVec.getLsbD_and, BitVec.getLsbD_sshiftRight]
    by_cases h0 : i = 0
    · subst h0
      by_cases c : a.toBitVec.getLsbD s = true
      · rw [if_pos c]
        simp [hs, c]
      · rw [if_neg c]
        have c' := b_ff c
        simp [hs]
        rw [← BitVec.getLsbD_eq_getElem]
        exact c'
    · have e1 : (1#32).getLsbD i = false := by
        rw [BitVec.getLsbD_one]
        simp [h0]
      rw [e1, Bool.and_false]
      by_cases c : a.toBitVec.getLsbD s = true
      · rw [if_pos c, e1]
      · rw [if_neg c]
        simp
  unfold hs_is
  refine Int32.toBitVec_inj.mp ?_
  have e : ((a >>> (Int32.ofNat k &&& 31)) &&& (1 : Int32)).toBitVec = a.toBitVec.sshiftRight k &&& 1#32 := by
    rcases (by omega : k = 0 ∨ k = 1 ∨ k = 2 ∨ k = 3 ∨ k = 4 ∨ k = 5 ∨ k = 6 ∨ k = 7 ∨ k = 8 ∨ k = 9) with e | e | e | e | e | e | e | e | e | e <;> subst e <;> rfl
  rw [e, key k (by omega)]
  by_cases c : a.toBitVec.getLsbD k = true
  · rw [if_pos c, if_pos c]
    rfl
  · rw [if_neg c, if_neg c]
    rfl
theorem bit_get {v : Int32} {k i : Nat} (h : v.toInt = (k : Int)) (hk : k ≤ 9) : (hs_bit v).toBitVec.getLsbD i = decide (k = i) := by
  have hv : v = Int32.ofNat k := i_of h (by omega)
  subst hv
  have e : (hs_bit (Int32.ofNat k)).toBitVec = BitVec.twoPow 32 k := by
    rcases (by omega : k = 0 ∨ k = 1 ∨ k = 2 ∨ k = 3 ∨ k = 4 ∨ k = 5 ∨ k = 6 ∨ k = 7 ∨ k = 8 ∨ k = 9) with e | e | e | e | e | e | e | e | e | e <;> subst e <;> decide
  rw [e, BitVec.getLsbD_twoPow]
  simp
  omega
theorem or_get {a b : Int32} {i : Nat} : (a ||| b).toBitVec.getLsbD i = (a.toBitVec.getLsbD i || b.toBitVec.getLsbD i) := by
  rw [Int32.toBitVec_or, BitVec.getLsbD_or]
theorem and_get {a b : Int32} {i : Nat} : (a &&& b).toBitVec.getLsbD i = (a.toBitVec.getLsbD i && b.toBitVec.getLsbD i) := by
  rw [Int32.toBitVec_and, BitVec.getLsbD_and]
theorem i_or0 {a : Int32} : a ||| 0 = a := by
  refine Int32.toBitVec_inj.mp ?_
  rw [Int32.toBitVec_or]
  show a.toBitVec ||| 0#32 = a.toBitVec
  simp
/-- the bits of what is true of numbers below n -/
def s_bs (f : Nat → Bool) : Nat → Int32
  | 0 => 0
  | k + 1 => if f k = true then s_bs f k ||| hs_bit (Int32.ofNat k) else s_bs f k
theorem bs_succ {f : Nat → Bool} {j : Nat} : s_bs f (j + 1) = if f j = true then s_bs f j ||| hs_bit (Int32.ofNat j) else s_bs f j := rfl
theorem bs_get {f : Nat → Bool} {i : Nat} : ∀ {k : Nat}, k ≤ 10 → (s_bs f k).toBitVec.getLsbD i = (decide (i < k) && f i) := by
  intro k
  induction k with
  | zero =>
    intro _
    show (0#32).getLsbD i = _
    simp
  | succ k ih =>
    intro hk
    have h := ih (by omega)
    unfold s_bs
    by_cases c : f k = true
    · rw [if_pos c, or_get, h, bit_get (i_ofNat (by omega)) (by omega)]
      by_cases e : k = i
      · subst e
        simp [c]
      · by_cases l : i < k
        · simp [l, e, show i < k + 1 by omega]
        · simp [l, e, show ¬ i < k + 1 by omega]
    · rw [if_neg c, h]
      by_cases e : k = i
      · subst e
        simp at c
        simp [c]
      · by_cases l : i < k
        · simp [l, show i < k + 1 by omega]
        · simp [l, show ¬ i < k + 1 by omega]
theorem bs_is {f : Nat → Bool} {i k : Nat} {v : Int32} (h : v.toInt = (i : Int)) (hi : i < k) (hk : k ≤ 10) : hs_is (s_bs f k) v = if f i = true then 1 else 0 := by
  rw [is_get h (by omega), bs_get hk]
  simp [hi]
theorem bs_congr {f g : Nat → Bool} : ∀ {k : Nat}, (∀ i, i < k → f i = g i) → s_bs f k = s_bs g k := by
  intro k
  induction k with
  | zero => intro _; rfl
  | succ k ih =>
    intro h
    unfold s_bs
    rw [h k (by omega), ih (fun i hi => h i (by omega))]
theorem bs_zero {f : Nat → Bool} {k : Nat} (hk : k ≤ 10) : s_bs f k = 0 ↔ ∀ i, i < k → f i = false := by
  constructor
  · intro h i hi
    have e := bs_get (f := f) (i := i) hk
    rw [h] at e
    have z : (0 : Int32).toBitVec.getLsbD i = false := by
      show (0#32).getLsbD i = false
      simp
    rw [z] at e
    simp [hi] at e
    exact e
  · intro h
    rw [bs_congr (g := fun _ => false) h]
    have : ∀ n, s_bs (fun _ => false) n = 0 := by
      intro n
      induction n with
      | zero => rfl
      | succ n ih => unfold s_bs; rw [if_neg (by decide), ih]
    exact this k
/-! what is known and HELD, of the cells alone -/
def s_va (σ : Nat → Int32) (h t : Nat) : Int32 := σ (59 + 14 * h + 2 * t)
def s_st (σ : Nat → Int32) (h t : Nat) : Int32 := σ (60 + 14 * h + 2 * t)
def s_kn (σ : Nat → Int32) (h t : Nat) : Bool := decide (0 ≤ (s_va σ h t).toInt)
def s_same (σ : Nat → Int32) (h t : Nat) : Bool := (List.range (hs_m σ)).any (fun o => o != h && s_va σ o t == s_va σ h t)
def s_ho (σ : Nat → Int32) (h t : Nat) : Bool := decide ((σ (13 + 4 * t)).toInt < 0) && (s_kn σ h t && (s_va σ h t == σ (10 + 4 * t) || s_same σ h t))
def s_hs (σ : Nat → Int32) (t : Nat) : Int32 := s_bs (fun h => s_ho σ h t) (hs_m σ)
def s_hb (σ : Nat → Int32) (h : Nat) : Int32 := s_bs (fun t => s_ho σ h t) (hs_n σ)
def s_sd (σ : Nat → Int32) : Int32 := s_bs (fun t => decide ((σ (13 + 4 * t)).toInt < 0)) (hs_n σ)
/-- cells that can be -/
def s_V (σ : Nat → Int32) : Prop := ((0 ≤ (σ 1).toInt ∧ (σ 1).toInt ≤ 7) ∧ 0 ≤ (σ 2).toInt ∧ (σ 2).toInt ≤ 7) ∧
  (∀ h t : Nat, (h : Int) < (σ 2).toInt → t < 7 → (s_va σ h t = -1 ∧ s_st σ h t = 0) ∨ ((0 ≤ (s_va σ h t).toInt ∧ (s_va σ h t).toInt ≤ 9) ∧ 1 ≤ (s_st σ h t).toInt ∧ (s_st σ h t).toInt ≤ 99)) ∧
  (∀ t : Nat, (t : Int) < (σ 1).toInt → ((0 ≤ (σ (10 + 4 * t)).toInt ∧ (σ (10 + 4 * t)).toInt ≤ 9) ∧ 0 ≤ (σ (11 + 4 * t)).toInt ∧ (σ (11 + 4 * t)).toInt ≤ 20) ∧ (0 ≤ (σ (12 + 4 * t)).toInt ∧ (σ (12 + 4 * t)).toInt ≤ 99) ∧ -1 ≤ (σ (13 + 4 * t)).toInt) ∧
  ∀ h : Nat, (h : Int) < (σ 2).toInt → (0 ≤ (σ (38 + 2 * h)).toInt ∧ (σ (38 + 2 * h)).toInt ≤ 99) ∧ 0 ≤ (σ (39 + 2 * h)).toInt ∧ (σ (39 + 2 * h)).toInt ≤ 100
theorem s_Vn {σ : Nat → Int32} (V : s_V σ) : ((σ 1).toInt = (hs_n σ : Int) ∧ hs_n σ ≤ 7) ∧ (σ 2).toInt = (hs_m σ : Int) ∧ hs_m σ ≤ 7 := by
  obtain ⟨⟨a, b⟩, _⟩ := V
  have e1 := i_clamp (x := σ 1) a.1
  have e2 := i_clamp (x := σ 2) b.1
  unfold hs_n hs_m
  omega
theorem s_kn0 {σ : Nat → Int32} {h t : Nat} (V : s_V σ) (hh : h < hs_m σ) (ht : t < 7) (c : s_kn σ h t = false) : s_va σ h t = -1 ∧ s_st σ h t = 0 := by
  have n := s_Vn V
  rcases V.2.1 h t (by omega) ht with h1 | h1
  · exact h1
  · have := of_decide_eq_false c
    omega
theorem s_kn1 {σ : Nat → Int32} {h t : Nat} (V : s_V σ) (hh : h < hs_m σ) (ht : t < 7) (c : s_kn σ h t = true) : (0 ≤ (s_va σ h t).toInt ∧ (s_va σ h t).toInt ≤ 9) ∧ 1 ≤ (s_st σ h t).toInt ∧ (s_st σ h t).toInt ≤ 99 := by
  have n := s_Vn V
  have c := of_decide_eq_true c
  rcases V.2.1 h t (by omega) ht with h1 | h1
  · rw [h1.1] at c
    exact absurd c (by decide)
  · exact h1
/-- a House at e, a State at s: the cells' -/
def k_X (M : gM) (s e : Nat) (σ : Nat → Int32) : Prop := (k_LE M e ∧ k_LS M s) ∧ (k_E M e σ ∧ k_S M s σ) ∧ s_V σ
theorem k_Xst {M : gM} {s e h t : Nat} {σ : Nat → Int32} (X : k_X M s e σ) (hh : h < hs_m σ) (ht : t < 7) : M.2.1 (s + 2) (7 * h + t) = s_st σ h t ∧ (s_kn σ h t = true → M.2.1 (s + 1) (7 * h + t) = s_va σ h t) := by
  have n := s_Vn X.2.2
  rcases (X.2.1.2.2.1 h (by omega)).2 t ht with c | c
  · exact ⟨c.2.2, fun _ => c.2.1⟩
  · refine ⟨c.1.trans c.2.2.symm, fun k => ?_⟩
    have k := of_decide_eq_true k
    have e : s_va σ h t = -1 := c.2.1
    rw [e] at k
    exact absurd k (by decide)
theorem k_Xpos {M : gM} {s e h t : Nat} {σ : Nat → Int32} (X : k_X M s e σ) (hh : h < hs_m σ) (ht : t < 7) : (s_st σ h t ≤ 0 ↔ s_kn σ h t = false) ∧ (s_st σ h t = 0 ↔ s_kn σ h t = false) := by
  by_cases c : s_kn σ h t = true
  · have k := s_kn1 X.2.2 hh ht c
    refine ⟨⟨fun h => ?_, fun h => ?_⟩, fun h => ?_, fun h => ?_⟩
    · have := i_le h
      have z0 : (0 : Int32).toInt = 0 := rfl
      omega
    · rw [c] at h
      cases h
    · rw [h] at k
      exact absurd k.2.1 (by decide)
    · rw [c] at h
      cases h
  · have c := b_ff c
    have k := s_kn0 X.2.2 hh ht c
    rw [k.2]
    exact ⟨⟨fun _ => c, fun _ => by decide⟩, fun _ => c, fun _ => rfl⟩
/-- a cell's place -/
theorem k_ix {l1 l2 : Int32} {h t : Nat} (h1 : l1.toInt = (h : Int)) (h2 : l2.toInt = (t : Int)) (hh : h < 7) (ht : t < 7) : (l1 * (7 : Int32) + l2).toInt = ((7 * h + t : Nat) : Int) := by
  have a1 := i_mulR (x := l1) (c := (7 : Int32)) (n := 7) rfl (by omega) (by omega)
  have a2 := i_add (x := l1 * (7 : Int32)) (y := l2) (by omega) (by omega)
  omega
