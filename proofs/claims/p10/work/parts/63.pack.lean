/-! eight letters in one number -/
def d_v (f : Nat → Nat) : Nat → Nat
  | 0 => 0
  | n + 1 => d_v f n * 256 + f n
theorem d_lt {f : Nat → Nat} : ∀ n, (∀ j, j < n → f j < 256) → d_v f n < 256 ^ n := by
  intro n
  induction n with
  | zero => intro _; exact Nat.zero_lt_one
  | succ n ih =>
    intro h
    have h1 := ih (fun j hj => h j (by omega))
    have h2 := h n (by omega)
    show d_v f n * 256 + f n < 256 ^ (n + 1)
    rw [Nat.pow_succ]
    omega
theorem d_inj {f g : Nat → Nat} : ∀ k l, (∀ j, j < k → 0 < f j ∧ f j < 256) → (∀ j, j < l → 0 < g j ∧ g j < 256) → d_v f k = d_v g l → k = l ∧ ∀ j, j < k → f j = g j := by
  intro k
  induction k with
  | zero =>
    intro l _ hg h
    cases l with
    | zero => exact ⟨rfl, fun j hj => absurd hj (Nat.not_lt_zero _)⟩
    | succ l =>
      have h1 : 0 = d_v g l * 256 + g l := h
      have := (hg l (by omega)).1
      omega
  | succ k ih =>
    intro l hf hg h
    cases l with
    | zero =>
      have h1 : d_v f k * 256 + f k = 0 := h
      have := (hf k (by omega)).1
      omega
    | succ l =>
      have h1 : d_v f k * 256 + f k = d_v g l * 256 + g l := h
      have a := (hf k (by omega)).2
      have b := (hg l (by omega)).2
      have e1 : f k = g l := by omega
      have e2 : d_v f k = d_v g l := by omega
      obtain ⟨e3, e4⟩ := ih l (fun j hj => hf j (by omega)) (fun j hj => hg j (by omega)) e2
      subst e3
      refine ⟨rfl, fun j hj => ?_⟩
      rcases Nat.lt_or_ge j k with h2 | h2
      · exact e4 j h2
      · have : j = k := by omega
        rw [this]
        exact e1
theorem j_step {x : Int64} {c : Int32} {v d : Nat} (hx : x.toBitVec.toNat = v) (hv : v < 256 ^ 7) (hc : c.toInt = (d : Int)) (hd : d < 256) : ((x <<< ((8 : Int32).toInt64 &&& 63)) ||| c.toInt64).toBitVec.toNat = v * 256 + d := by
  have e1 : (x <<< ((8 : Int32).toInt64 &&& 63)).toBitVec.toNat = v * 256 := by
    rw [Int64.toBitVec_shiftLeft]
    have e8 : (((8 : Int32).toInt64 &&& 63).toBitVec.smod 64) = 8#64 := by decide
    rw [e8]
    show (x.toBitVec <<< (8#64).toNat).toNat = _
    rw [BitVec.toNat_shiftLeft, hx, Nat.shiftLeft_eq]
    have : (8#64).toNat = 8 := rfl
    rw [this]
    refine Nat.mod_eq_of_lt ?_
    have : (256 : Nat) ^ 7 = 72057594037927936 := by decide
    omega
  have e2 : c.toInt64.toBitVec.toNat = d := by
    have h : c.toInt64.toInt = (d : Int) := (Int32.toInt_toInt64 c).trans hc
    have h2 : c.toInt64.toBitVec.toInt = (d : Int) := h
    rw [BitVec.toInt_eq_toNat_cond] at h2
    have := c.toInt64.toBitVec.isLt
    split at h2 <;> omega
  rw [Int64.toBitVec_or, BitVec.toNat_or, e1, e2]
  have h3 := Nat.shiftLeft_add_eq_or_of_lt (show d < 2 ^ 8 by omega) v
  rw [Nat.shiftLeft_eq] at h3
  exact h3.symm
theorem n_ac_v {b : Nat → Int32} {p : Nat} : ∀ n, n ≤ 8 → (∀ j, j < n → 0 ≤ (b (p + j)).toInt ∧ (b (p + j)).toInt < 256) → (n_ac b p n).toBitVec.toNat = d_v (fun j => (b (p + j)).toInt.toNat) n := by
  intro n
  induction n with
  | zero => intro _ _; rfl
  | succ n ih =>
    intro hn h
    have h1 := ih (by omega) (fun j hj => h j (by omega))
    have h2 := h n (by omega)
    have h3 := d_lt (f := fun j => (b (p + j)).toInt.toNat) n (fun j hj => by have := h j (by omega); omega)
    have h4 : (256 : Nat) ^ n ≤ 256 ^ 7 := Nat.pow_le_pow_right (by decide) (by omega)
    exact j_step (d := (b (p + n)).toInt.toNat) h1 (by omega) (by omega) (by omega)
/-- the words as numbers -/
def w_pk (W : List Nat) : Nat := d_v (fun j => W.getD j 0) W.length
theorem w_pack {T : gM} {p : Nat} {W : List Nat} {w : Int64} (hw : w.toBitVec.toNat = w_pk W) (hl : 0 < W.length ∧ W.length ≤ 8) (hc : ∀ j, j < W.length → 0 < W.getD j 0 ∧ W.getD j 0 < 256) : n_w T p w = w_m T p W := by
  rw [Bool.eq_iff_iff]
  unfold n_w w_m
  rw [decide_eq_true_iff, Bool.and_eq_true, decide_eq_true_iff, List.all_eq_true]
  have lt : ∀ j, j < n_le T p - p → n_L T (p + j) = true := fun j hj => n_run_in _ _ (p + j) (by omega) (show p + j < n_le T p by omega)
  have lr : ∀ j, j < n_le T p - p → 97 ≤ (n_b T (p + j)).toInt ∧ (n_b T (p + j)).toInt ≤ 122 := fun j hj => (of_decide_eq_true (lt j hj)).2
  constructor
  · rintro ⟨h1, h2, h3⟩
    have hv := n_ac_v (b := n_b T) (p := p) (n_le T p - p) (by omega) (fun j hj => by have := lr j hj; omega)
    rw [h3, hw] at hv
    obtain ⟨e1, e2⟩ := d_inj (f := fun j => W.getD j 0) (g := fun j => (n_b T (p + j)).toInt.toNat) W.length (n_le T p - p) hc (fun j hj => by have := lr j hj; omega) hv
    refine ⟨by omega, fun j hj => decide_eq_true ?_⟩
    have hj2 := List.mem_range.mp hj
    have := e2 j hj2
    have h9 := lr j (by omega)
    omega
  · rintro ⟨h1, h2⟩
    refine ⟨by omega, by omega, ?_⟩
    have hk : n_le T p - p = W.length := by omega
    have hv := n_ac_v (b := n_b T) (p := p) (n_le T p - p) (by omega) (fun j hj => by have := lr j hj; omega)
    apply Int64.toBitVec_inj.mp
    apply BitVec.eq_of_toNat_eq
    rw [hv, hw, hk]
    unfold w_pk
    have : ∀ n, n ≤ W.length → d_v (fun j => (n_b T (p + j)).toInt.toNat) n = d_v (fun j => W.getD j 0) n := by
      intro n
      induction n with
      | zero => intro _; rfl
      | succ n ih =>
        intro hn
        have := of_decide_eq_true (h2 n (List.mem_range.mpr (by omega)))
        show d_v _ n * 256 + (n_b T (p + n)).toInt.toNat = d_v _ n * 256 + W.getD n 0
        rw [ih (by omega), this]
        rfl
    exact this _ (Nat.le_refl _)
theorem w_m_one {T : gM} {p : Nat} {V W : List Nat} (h1 : w_m T p V = true) (h2 : w_m T p W = true) : V = W := by
  unfold w_m at h1 h2
  rw [Bool.and_eq_true, decide_eq_true_iff, List.all_eq_true] at h1 h2
  have hl : V.length = W.length := by omega
  refine List.ext_getElem hl (fun i hi1 hi2 => ?_)
  have a := of_decide_eq_true (h1.2 i (List.mem_range.mpr hi1))
  have b := of_decide_eq_true (h2.2 i (List.mem_range.mpr hi2))
  rw [List.getD_eq_getElem?_getD, List.getElem?_eq_getElem hi1] at a
  rw [List.getD_eq_getElem?_getD, List.getElem?_eq_getElem hi2] at b
  simp at a b
  omega
theorem w_k_spec {T : gM} {p : Nat} : ∀ (Ws : List (List Nat)) (k : Int), (∃ i, i < Ws.length ∧ w_k T p Ws k = k + i ∧ w_m T p (Ws.getD i []) = true) ∨ (w_k T p Ws k = 260 ∧ ∀ i, i < Ws.length → w_m T p (Ws.getD i []) = false) := by
  intro Ws
  induction Ws with
  | nil => intro k; exact Or.inr ⟨rfl, fun i hi => absurd hi (Nat.not_lt_zero _)⟩
  | cons W Ws ih =>
    intro k
    unfold w_k
    by_cases d : w_m T p W = true
    · rw [if_pos d]
      exact Or.inl ⟨0, by simp, by simp, d⟩
    · rw [if_neg d]
      rcases ih (k + 1) with ⟨i, h1, h2, h3⟩ | ⟨h1, h2⟩
      · exact Or.inl ⟨i + 1, by simp; exact h1, by rw [h2]; push_cast; omega, h3⟩
      · refine Or.inr ⟨h1, fun i hi => ?_⟩
        cases i with
        | zero => simpa using d
        | succ i => exact h2 i (by simp at hi; exact hi)
theorem w_nodup : ∀ i : Fin 22, ∀ j : Fin 22, w_all.getD i.val [] = w_all.getD j.val [] → i = j := by decide +kernel
/-- the word at a place is the i-th -/
theorem k_w_iff {T : gM} {p i : Nat} (hi : i < 22) : k_w T p = 261 + (i : Int) ↔ w_m T p (w_all.getD i []) = true := by
  unfold k_w
  rcases w_k_spec (T := T) (p := p) w_all 261 with ⟨j, h1, h2, h3⟩ | ⟨h1, h2⟩
  · rw [h2]
    have hj : j < 22 := h1
    constructor
    · intro h
      have : j = i := by omega
      rw [← this]
      exact h3
    · intro h
      have := w_nodup ⟨i, hi⟩ ⟨j, hj⟩ (w_m_one h h3)
      have : i = j := congrArg Fin.val this
      omega
  · rw [h1]
    constructor
    · intro h
      omega
    · intro h
      rw [h2 i hi] at h
      cases h
theorem k_w_r {T : gM} {p : Nat} : 260 ≤ k_w T p ∧ k_w T p ≤ 282 := by
  unfold k_w
  rcases w_k_spec (T := T) (p := p) w_all 261 with ⟨j, h1, h2, h3⟩ | ⟨h1, h2⟩
  · have hj : j < 22 := h1
    omega
  · omega
theorem w_lens : ∀ i : Fin 22, (0 < (w_all.getD i.val []).length ∧ (w_all.getD i.val []).length ≤ 8) ∧ ∀ j : Fin 8, j.val < (w_all.getD i.val []).length → 0 < (w_all.getD i.val []).getD j.val 0 ∧ (w_all.getD i.val []).getD j.val 0 < 256 := by decide +kernel
/-- the reference's number of the i-th word -/
theorem w_num {T : gM} {p i : Nat} {w : Int64} (hi : i < 22) (hw : w.toBitVec.toNat = w_pk (w_all.getD i [])) : (n_w T p w = true ↔ k_w T p = 261 + (i : Int)) := by
  have h := w_lens ⟨i, hi⟩
  rw [k_w_iff hi, w_pack hw h.1 (fun j hj => h.2 ⟨j, by have := h.1.2; dsimp only at this; omega⟩ hj)]
