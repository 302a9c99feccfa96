/-! the tape, of both -/
def u_1 (f : Nat → Int32) (n : Nat) (b : Int32) : Nat → Int32 := fun k => if k = n then b else f k
def u_b (v s : Int32) : Int32 := (((v >>> (s &&& 31)).toInt8.toInt32)).toInt8.toInt32
def u_L (v : Int32) : Nat → Int32 → (Nat → Int32) → Nat → (Nat → Int32)
  | 0, _, f, _ => f
  | j + 1, s, f, n => u_L v j (s + (-8)) (u_1 f n (u_b v s)) (n + 1)
def u_4 (v : Int32) (f : Nat → Int32) (n : Nat) : Nat → Int32 := u_L v 4 24 f n
theorem u_mI {M : gM} {i n : Nat} {b : Int32} : (mI M i n b).2.1 i = u_1 (M.2.1 i) n b := by
  funext k
  unfold u_1
  by_cases c : k = n
  · subst c
    rw [if_pos rfl, y_mI1]
  · rw [if_neg c, mI_ne (Or.inr c)]
theorem u_L_r {v : Int32} : ∀ (j : Nat) {s : Int32} {f : Nat → Int32} {n : Nat}, (∀ q, -128 ≤ (f q).toInt ∧ (f q).toInt ≤ 127) → ∀ q, -128 ≤ (u_L v j s f n q).toInt ∧ (u_L v j s f n q).toInt ≤ 127 := by
  intro j
  induction j with
  | zero => intro s f n h q; exact h q
  | succ j ih =>
    intro s f n h q
    refine ih (fun k => ?_) q
    unfold u_1
    by_cases c : k = n
    · rw [if_pos c]
      unfold u_b
      rw [Int8.toInt_toInt32]
      have a1 := Int8.le_toInt (((v >>> (s &&& 31)).toInt8.toInt32).toInt8)
      have a2 := Int8.toInt_lt (((v >>> (s &&& 31)).toInt8.toInt32).toInt8)
      omega
    · rw [if_neg c]
      exact h k
def u_Z (M : gM) : Prop := (g_k M 131 = (9, 0) ∧ g_k M 132 = (22, 400)) ∧ M.2.2.2 131 0 = some 132
theorem u_Zm {M : gM} {i k : Nat} {v : Int32} (h : u_Z M) : u_Z (mI M i k v) := h
theorem C_append_L3 {v : Int32} : ∀ (j fuel : Nat) {s : Int32} {M : gM} {n : Nat}, u_Z M → s.toInt = 8 * (j : Int) - 8 → j ≤ 4 → (M.2.1 131 6).toInt = (n : Int) → n + j ≤ 400 → j < fuel → Ok (F_X9_append_L3 fuel (some 131) v s M) (fun M' => (M'.1 = M.1 ∧ M'.2.2.2 = M.2.2.2) ∧ M'.2.1 132 = u_L v j s (M.2.1 132) n ∧ (M'.2.1 131 6).toInt = ((n + j : Nat) : Int)) := by
  intro j
  induction j with
  | zero =>
    intro fuel s M n Z hs hj hn hb hf
    obtain ⟨fuel, rfl⟩ : ∃ f, fuel = f + 1 := ⟨fuel - 1, by omega⟩
    show Ok (F_X9_append_b3 (F_X9_append_L3 fuel) (some 131) v s M) _
    delta F_X9_append_b3
    rw [if_pos (Int32.lt_iff_toInt_lt.mpr (by have z0 : (0 : Int32).toInt = 0 := rfl; omega))]
    exact Ok_s ⟨⟨rfl, rfl⟩, rfl, hn⟩
  | succ j ih =>
    intro fuel s M n Z hs hj hn hb hf
    obtain ⟨fuel, rfl⟩ : ∃ f, fuel = f + 1 := ⟨fuel - 1, by omega⟩
    show Ok (F_X9_append_b3 (F_X9_append_L3 fuel) (some 131) v s M) _
    have z0 : (0 : Int32).toInt = 0 := rfl
    have z4 : (400 : Int32).toInt = 400 := rfl
    obtain ⟨⟨k1, k2⟩, r0⟩ := Z
    have Z0 : u_Z M := ⟨⟨k1, k2⟩, r0⟩
    have s32 : sB M (some 132) (M.2.1 131 6) ((v >>> (s &&& 31)).toInt8.toInt32) = some (mI M 132 n (u_b v s)) := by
      unfold sB
      rw [Option.bind_some, if_pos ⟨by rw [k2], by rw [k2]; exact gin_of (by omega) (by omega)⟩, i_cl hn]
      rfl
    have k1' : g_k (mI M 132 n (u_b v s)) 131 = (9, 0) := k1
    have e6 : (mI M 132 n (u_b v s)).2.1 131 6 = M.2.1 131 6 := mI_ne (Or.inl (by decide))
    delta F_X9_append_b3
    rw [if_neg (fun z => by have := i_lt z; omega), t_gI k1, Option.bind_some, if_neg (fun z => by have := i_le z; omega), t_gR k1 r0, Option.bind_some, Option.bind_some, s32, Option.bind_some, t_gI k1', Option.bind_some, t_pI k1', Option.bind_some, e6, n_inc hn (by omega)]
    have a2 := i_addc (x := s) (c := (-8 : Int32)) (n := -8) rfl (by omega) (by omega)
    refine Ok_w (ih fuel (s := s + (-8)) (n := n + 1) (u_Zm (u_Zm Z0)) (by omega) (by omega) (by rw [y_mI1, i_ofNat (by omega)]) (by omega) (by omega)) (fun M' z => ?_)
    obtain ⟨⟨q1, q2⟩, q3, q4⟩ := z
    refine ⟨⟨q1, q2⟩, ?_, by rw [q4]; omega⟩
    rw [q3]
    show u_L v j (s + (-8)) ((mI (mI M 132 n (u_b v s)) 131 6 (Int32.ofNat (n + 1))).2.1 132) (n + 1) = u_L v j (s + (-8)) (u_1 (M.2.1 132) n (u_b v s)) (n + 1)
    rw [← u_mI]
    exact congrArg (fun f => u_L v j (s + (-8)) f (n + 1)) (funext (fun q => mI_ne (Or.inl (by decide))))
theorem C_append {v : Int32} {M : gM} {n : Nat} (Z : u_Z M) (hn : (M.2.1 131 6).toInt = (n : Int)) (hb : n + 4 ≤ 400) : Ok (F_X9_append (some 131) v M) (fun M' => (M'.1 = M.1 ∧ M'.2.2.2 = M.2.2.2) ∧ M'.2.1 132 = u_4 v (M.2.1 132) n ∧ (M'.2.1 131 6).toInt = ((n + 4 : Nat) : Int)) := by
  delta F_X9_append F_X9_append_b0
  exact C_append_L3 4 _ Z rfl (by decide) hn hb (by decide)
theorem E_four_L3 {v : Int32} : ∀ (j fuel : Nat) {s : Int32} {M : gM} {n : Nat}, y_HT M → s.toInt = 8 * (j : Int) - 8 → j ≤ 4 → (M.2.1 175 1).toInt = (n : Int) → n + j ≤ 400 → j < fuel → Ok (F_X12_four_L3 fuel (some 175) v s M) (fun M' => M'.2.1 176 = u_L v j s (M.2.1 176) n ∧ (M'.2.1 175 1).toInt = ((n + j : Nat) : Int)) := by
  intro j
  induction j with
  | zero =>
    intro fuel s M n H hs hj hn hb hf
    obtain ⟨fuel, rfl⟩ : ∃ f, fuel = f + 1 := ⟨fuel - 1, by omega⟩
    show Ok (F_X12_four_b3 (F_X12_four_L3 fuel) (some 175) v s M) _
    delta F_X12_four_b3
    rw [if_pos (Int32.lt_iff_toInt_lt.mpr (by have z0 : (0 : Int32).toInt = 0 := rfl; omega))]
    exact Ok_s ⟨rfl, hn⟩
  | succ j ih =>
    intro fuel s M n H hs hj hn hb hf
    obtain ⟨fuel, rfl⟩ : ∃ f, fuel = f + 1 := ⟨fuel - 1, by omega⟩
    show Ok (F_X12_four_b3 (F_X12_four_L3 fuel) (some 175) v s M) _
    have z0 : (0 : Int32).toInt = 0 := rfl
    have k2 : g_k M 176 = (22, 400) := H.1.1 176 (by decide)
    have s32 : sB M (some 176) (M.2.1 175 1) ((v >>> (s &&& 31)).toInt8.toInt32) = some (mI M 176 n (u_b v s)) := by
      unfold sB
      rw [Option.bind_some, if_pos ⟨by rw [k2], by rw [k2]; exact gin_of (by omega) (by omega)⟩, i_cl hn]
      rfl
    have H1 : y_HT (mI M 176 n (u_b v s)) := (y_set (M' := mI M 176 n (u_b v s)) (S := 2 ^ 41) H (i := 176) (k := n) (by decide) rfl rfl y_mI1 (fun j a hj => y_mI2 hj) rfl (y_full rfl) (show Nat.testBit (2 ^ 41) 41 = true by decide)).1
    have e6 : (mI M 176 n (u_b v s)).2.1 175 1 = M.2.1 175 1 := mI_ne (Or.inl (by decide))
    delta F_X12_four_b3
    rw [if_neg (fun z => by have := i_lt z; omega), e_gR H (w := 176) rfl (by decide), Option.bind_some, e_gI H, Option.bind_some, s32, Option.bind_some, e_gI H1, Option.bind_some, e_pI H1, Option.bind_some, e6, n_inc hn (by omega)]
    have H2 : y_HT (mI (mI M 176 n (u_b v s)) 175 1 (Int32.ofNat (n + 1))) := (y_set (M' := mI (mI M 176 n (u_b v s)) 175 1 (Int32.ofNat (n + 1))) (S := 2 ^ 1) H1 (i := 175) (k := 1) (by decide) rfl rfl y_mI1 (fun j a hj => y_mI2 hj) rfl (y_in (lo := 0) (hi := 400) rfl (by rw [i_ofNat (by omega)]; omega)) (by decide)).1
    have a2 := i_addc (x := s) (c := (-8 : Int32)) (n := -8) rfl (by omega) (by omega)
    refine Ok_w (ih fuel (s := s + (-8)) (n := n + 1) H2 (by omega) (by omega) (by rw [y_mI1, i_ofNat (by omega)]) (by omega) (by omega)) (fun M' z => ?_)
    obtain ⟨q3, q4⟩ := z
    refine ⟨?_, by rw [q4]; omega⟩
    rw [q3]
    show u_L v j (s + (-8)) ((mI (mI M 176 n (u_b v s)) 175 1 (Int32.ofNat (n + 1))).2.1 176) (n + 1) = u_L v j (s + (-8)) (u_1 (M.2.1 176) n (u_b v s)) (n + 1)
    rw [← u_mI]
    exact congrArg (fun f => u_L v j (s + (-8)) f (n + 1)) (funext (fun q => mI_ne (Or.inl (by decide))))
theorem E_four {v : Int32} {M : gM} {n : Nat} (H : y_HT M) (hn : (M.2.1 175 1).toInt = (n : Int)) (hb : n + 4 ≤ 400) : Ok (F_X12_four (some 175) v M) (fun M' => M'.2.1 176 = u_4 v (M.2.1 176) n ∧ (M'.2.1 175 1).toInt = ((n + 4 : Nat) : Int)) := by
  delta F_X12_four F_X12_four_b0
  exact E_four_L3 4 _ H rfl (by decide) hn hb (by decide)
