/-! words: the class's, letter by letter; the reference's, as one number -/
def w_m (T : gM) (p : Nat) (W : List Nat) : Bool := decide (n_le T p = p + W.length) && (List.range W.length).all (fun j => decide ((n_b T (p + j)).toInt = ((W.getD j 0 : Nat) : Int)))
def w_k (T : gM) (p : Nat) : List (List Nat) → Int → Int
  | [], _ => 260
  | W :: Ws, k => if w_m T p W = true then k else w_k T p Ws (k + 1)
def w_tx : List (List Nat) → List Nat
  | [] => []
  | W :: Ws => W ++ 32 :: w_tx Ws
def w_all : List (List Nat) := [[104, 101, 105, 114], [116, 104, 105, 110, 103], [97, 115], [114, 105, 103, 104, 116], [115, 116, 114, 101, 110, 103, 116, 104], [97, 103, 101], [104, 97, 116, 101, 115], [115, 111, 110, 103], [98, 117, 114, 110, 116], [108, 111, 115, 115], [102, 105, 101, 108, 100], [121, 101, 97, 114], [115, 97, 109, 101], [107, 110, 111, 119, 110], [104, 111, 117, 115, 101], [99, 111, 117, 115, 105, 110, 115], [107, 110, 111, 119, 115], [102, 97, 100, 101], [105, 102], [110, 111, 116], [97, 110, 100], [111, 114]]
theorem w_text : (List.range 116).all (fun j => decide ((g_ch (Int32.ofNat j)).toInt = (((w_tx w_all).getD j 0 : Nat) : Int))) = true ∧ (w_tx w_all).length = 116 := by decide +kernel
theorem w_gch {l : Int32} {q : Nat} (h : l.toInt = (q : Int)) (hq : q < 116) : ∃ c, gch (some 1) l = some c ∧ c.toInt = (((w_tx w_all).getD q 0 : Nat) : Int) := by
  have e : l = Int32.ofNat q := i_of h (by omega)
  have h1 := List.all_eq_true.mp w_text.1 q (List.mem_range.mpr hq)
  refine ⟨g_ch l, ?_, by rw [e]; exact of_decide_eq_true h1⟩
  unfold gch
  rw [if_pos ⟨rfl, gin_of (by omega) (by omega)⟩]
/-- the rest of a word stands behind m letters that stand -/
def w_r (T : gM) (p m : Nat) (W : List Nat) : Bool := (List.range W.length).all (fun j => decide (p + m + j < n_le T p ∧ (n_b T (p + m + j)).toInt = ((W.getD j 0 : Nat) : Int)))
theorem w_r_cons {T : gM} {p m c : Nat} {W : List Nat} : w_r T p m (c :: W) = true ↔ ((p + m < n_le T p ∧ (n_b T (p + m)).toInt = (c : Int)) ∧ w_r T p (m + 1) W = true) := by
  unfold w_r
  rw [List.all_eq_true, List.all_eq_true]
  constructor
  · intro h
    refine ⟨by have := of_decide_eq_true (h 0 (List.mem_range.mpr (by simp))); simpa using this, fun j hj => ?_⟩
    have hj2 := List.mem_range.mp hj
    have := of_decide_eq_true (h (j + 1) (List.mem_range.mpr (by simp; exact hj2)))
    refine decide_eq_true ?_
    rw [show p + (m + 1) + j = p + m + (j + 1) by omega]
    simpa using this
  · rintro ⟨h1, h2⟩ j hj
    cases j with
    | zero =>
      refine decide_eq_true ?_
      simpa using h1
    | succ j =>
      have hj2 := List.mem_range.mp hj
      have := of_decide_eq_true (h2 j (List.mem_range.mpr (by simp at hj2; exact hj2)))
      refine decide_eq_true ?_
      rw [show p + (m + 1) + j = p + m + (j + 1) by omega] at this
      simpa using this
theorem w_r_m {T : gM} {p : Nat} {W : List Nat} : (w_r T p 0 W = true ∧ n_le T p = p + W.length) ↔ w_m T p W = true := by
  unfold w_r w_m
  rw [Bool.and_eq_true, List.all_eq_true, List.all_eq_true, decide_eq_true_iff]
  constructor
  · rintro ⟨h1, h2⟩
    refine ⟨h2, fun j hj => ?_⟩
    have := of_decide_eq_true (h1 j hj)
    exact decide_eq_true this.2
  · rintro ⟨h1, h2⟩
    refine ⟨fun j hj => ?_, h1⟩
    have hj2 := List.mem_range.mp hj
    have := of_decide_eq_true (h2 j hj)
    exact decide_eq_true ⟨by omega, this⟩
theorem C_wordKind_word {T M : gM} (Z : z_T T M) {p : Nat} {l1 l2 : Int32} (h1 : l1.toInt = (p : Int)) (h2 : l2.toInt = (n_le T p : Int)) (hp : p < n_le T p) (hs : n_le T p ≤ n_s T) : ∀ (W : List Nat) (rest : List Nat) (n m q : Nat) {k : Int} {l3 l4 l5 : Int32}, l3.toInt = k → (0 ≤ k ∧ k ≤ 1000) → l5.toInt = (q : Int) → q + (W ++ 32 :: rest).length ≤ 116 → (∀ j, j < (W ++ 32 :: rest).length → (w_tx w_all).getD (q + j) 0 = (W ++ 32 :: rest).getD j 0) → (∀ c, c ∈ W → c ≠ 32 ∧ c < 128) → (l4.toInt = (m : Int) ∨ l4 = -1) → m ≤ q → W.length < n →
    F_X9_wordKind_L10 M n (some 131) l1 l2 l3 l4 l5 = (if l4.toInt = (m : Int) ∧ w_r T p m W = true ∧ n_le T p = p + m + W.length then some l3 else F_X9_wordKind_L10 M (n - W.length - 1) (some 131) l1 l2 (l3 + 1) 0 (Int32.ofNat (q + W.length + 1))) := by
  intro W
  have k1 := Z.1.1.1.1.1.1
  have B := Z.1.2
  have z116 : (116 : Int32).toInt = 116 := rfl
  have z32 : (32 : Int32).toInt = 32 := rfl
  have z0 : (0 : Int32).toInt = 0 := rfl
  have zm : (-1 : Int32).toInt = -1 := rfl
  have a21 := i_sub (x := l2) (y := l1) (by have := B.2; omega) (by have := B.2; omega)
  induction W with
  | nil =>
    intro rest n m q k l3 l4 l5 h3 hk h5 hl ht hc h4 hm hn
    cases n with
    | zero => simp at hn
    | succ n =>
      show F_X9_wordKind_b10 (F_X9_wordKind_L10 M n) M (some 131) l1 l2 l3 l4 l5 = _
      simp at hl
      obtain ⟨c, ec, hc1⟩ := w_gch (l := l5) h5 (by omega)
      have ht0 : (w_tx w_all).getD q 0 = 32 := ht 0 (by simp)
      have c32 : c = 32 := Int32.toInt_inj.mp (by rw [hc1, z32, ht0]; rfl)
      delta F_X9_wordKind_b10 F_X9_wordKind_b90 F_X9_wordKind_b87
      rw [if_neg (fun z => by have := i_le z; omega), ec, Option.bind_some, if_pos c32]
      have wr : w_r T p m [] = true := rfl
      by_cases e : l4 = l2 - l1
      · have e' := i_eq e
        have hm1 : l4.toInt = (m : Int) := by
          rcases h4 with h4 | h4
          · exact h4
          · rw [h4, zm] at e'
            omega
        rw [if_pos e, if_pos ⟨hm1, wr, by simp; omega⟩]
      · have e' := i_ne e
        rw [if_neg e, if_neg (fun z => e' (by have := z.2.2; simp at this; omega))]
        show F_X9_wordKind_L10 M n (some 131) l1 l2 (l3 + 1) 0 (l5 + 1) = F_X9_wordKind_L10 M (n + 1 - 0 - 1) (some 131) l1 l2 (l3 + 1) 0 (Int32.ofNat (q + 0 + 1))
        rw [show (l5 + 1 : Int32) = Int32.ofNat (q + 1) from n_inc h5 (by omega)]
        rfl
  | cons w W ih =>
    intro rest n m q k l3 l4 l5 h3 hk h5 hl ht hc h4 hm hn
    cases n with
    | zero => simp at hn
    | succ n =>
      show F_X9_wordKind_b10 (F_X9_wordKind_L10 M n) M (some 131) l1 l2 l3 l4 l5 = _
      simp at hl hn
      obtain ⟨c, ec, hc1⟩ := w_gch (l := l5) h5 (by omega)
      have ht0 : (w_tx w_all).getD q 0 = w := ht 0 (by simp)
      have cw : c.toInt = (w : Int) := by rw [hc1, ht0]
      have w32 := hc w List.mem_cons_self
      have inc : (l5 + 1 : Int32) = Int32.ofNat (q + 1) := n_inc h5 (by omega)
      have i5 : (l5 + 1 : Int32).toInt = ((q + 1 : Nat) : Int) := by rw [inc, i_ofNat (by omega)]
      have ht' : ∀ j, j < (W ++ 32 :: rest).length → (w_tx w_all).getD (q + 1 + j) 0 = (W ++ 32 :: rest).getD j 0 := by
        intro j hj
        have := ht (j + 1) (by simp at hj ⊢; omega)
        rw [show q + 1 + j = q + (j + 1) by omega, this]
        rfl
      have go : ∀ {l : Int32} (m2 : Nat), (l.toInt = (m2 : Int) ∨ l = -1) → m2 ≤ q + 1 → F_X9_wordKind_L10 M n (some 131) l1 l2 l3 l (l5 + 1) = (if l.toInt = (m2 : Int) ∧ w_r T p m2 W = true ∧ n_le T p = p + m2 + W.length then some l3 else F_X9_wordKind_L10 M (n - W.length - 1) (some 131) l1 l2 (l3 + 1) 0 (Int32.ofNat (q + 1 + W.length + 1))) := by
        intro l m2 hl2 hm2
        exact ih rest n m2 (q + 1) h3 hk i5 (by simp; omega) ht' (fun c hc2 => hc c (List.mem_cons_of_mem _ hc2)) hl2 hm2 (by omega)
      have en : n + 1 - (w :: W).length - 1 = n - W.length - 1 := by simp
      have eq : q + (w :: W).length + 1 = q + 1 + W.length + 1 := by simp; omega
      rw [en, eq]
      have fail : ¬ (l4.toInt = (m : Int) ∧ w_r T p m (w :: W) = true ∧ n_le T p = p + m + (w :: W).length) → F_X9_wordKind_L10 M n (some 131) l1 l2 l3 (-1 : Int32) (l5 + 1) = (if l4.toInt = (m : Int) ∧ w_r T p m (w :: W) = true ∧ n_le T p = p + m + (w :: W).length then some l3 else F_X9_wordKind_L10 M (n - W.length - 1) (some 131) l1 l2 (l3 + 1) 0 (Int32.ofNat (q + 1 + W.length + 1))) := by
        intro hf
        rw [if_neg hf, go (m + 1) (Or.inr rfl) (by omega), if_neg (fun z => by have := z.1; rw [zm] at this; omega)]
      delta F_X9_wordKind_b10 F_X9_wordKind_b90 F_X9_wordKind_b87
      rw [if_neg (fun z => by have := i_le z; omega), ec, Option.bind_some, if_neg (fun z => w32.1 (by rw [z, z32] at cw; omega))]
      rcases h4 with h4 | h4
      · rw [if_neg (fun z => by have := i_lt z; omega)]
        have a1 := i_add (x := l1) (y := l4) (by have := B.2; omega) (by have := B.2; omega)
        have pm : (l1 + l4).toInt = ((p + m : Nat) : Int) := by omega
        by_cases c1 : l2 ≤ l1 + l4
        · have := i_le c1
          rw [if_pos c1]
          exact fail (fun z => by have := (w_r_cons.mp z.2.1).1.1; omega)
        · have d1 := i_nle c1
          have hlt : p + m < n_s T := by omega
          have hr := n_ca_r B hlt
          have hb := B.1 (p + m)
          rw [if_neg c1, t_gO k1, Option.bind_some, C_byteAt Z pm, Option.bind_some]
          by_cases e : n_ca T (p + m) = c
          · have e' := i_eq e
            have eb : (n_b T (p + m)).toInt = (w : Int) := by
              rw [cw] at e'
              rw [hr] at e'
              split at e' <;> omega
            rw [if_pos e, go (m + 1) (Or.inl (by rw [show (l4 + 1 : Int32) = Int32.ofNat (m + 1) from n_inc h4 (by omega), i_ofNat (by omega)])) (by omega)]
            have i4 : (l4 + 1 : Int32).toInt = ((m + 1 : Nat) : Int) := by rw [show (l4 + 1 : Int32) = Int32.ofNat (m + 1) from n_inc h4 (by omega), i_ofNat (by omega)]
            by_cases d : w_r T p (m + 1) W = true ∧ n_le T p = p + (m + 1) + W.length
            · rw [if_pos ⟨i4, d⟩, if_pos ⟨h4, w_r_cons.mpr ⟨⟨by omega, eb⟩, d.1⟩, by rw [d.2]; simp; omega⟩]
            · rw [if_neg (fun z => d z.2), if_neg (fun z => d ⟨(w_r_cons.mp z.2.1).2, by have := z.2.2; simp at this; omega⟩)]
          · rw [if_neg e]
            refine fail (fun z => e (Int32.toInt_inj.mp ?_))
            have eb := (w_r_cons.mp z.2.1).1.2
            rw [hr, cw, eb, if_pos (by omega)]
      · rw [if_pos (by rw [h4]; decide)]
        exact fail (fun z => by have := z.1; rw [h4, zm] at this; omega)
theorem C_wordKind_L10 {T M : gM} (Z : z_T T M) {p : Nat} {l1 l2 : Int32} (h1 : l1.toInt = (p : Int)) (h2 : l2.toInt = (n_le T p : Int)) (hp : p < n_le T p) (hs : n_le T p ≤ n_s T) : ∀ (Ws : List (List Nat)) (n q : Nat) {k : Int} {l3 l5 : Int32}, l3.toInt = k → (0 ≤ k ∧ k + Ws.length ≤ 1000) → l5.toInt = (q : Int) → q + (w_tx Ws).length = 116 → (∀ j, j < (w_tx Ws).length → (w_tx w_all).getD (q + j) 0 = (w_tx Ws).getD j 0) → (∀ W, W ∈ Ws → ∀ c, c ∈ W → c ≠ 32 ∧ c < 128) → (w_tx Ws).length < n →
    Ok (F_X9_wordKind_L10 M n (some 131) l1 l2 l3 0 l5) (fun v => v.toInt = w_k T p Ws k) := by
  intro Ws
  induction Ws with
  | nil =>
    intro n q k l3 l5 h3 hk h5 hl ht hc hn
    cases n with
    | zero => simp [w_tx] at hn
    | succ n =>
      show Ok (F_X9_wordKind_b10 (F_X9_wordKind_L10 M n) M (some 131) l1 l2 l3 0 l5) _
      simp [w_tx] at hl
      have z116 : (116 : Int32).toInt = 116 := rfl
      delta F_X9_wordKind_b10
      refine Ok_t (Int32.le_iff_toInt_le.mpr (by omega)) ?_
      exact Ok_s rfl
  | cons W Ws ih =>
    intro n q k l3 l5 h3 hk h5 hl ht hc hn
    have el : (w_tx (W :: Ws)).length = W.length + 1 + (w_tx Ws).length := by
      show (W ++ 32 :: w_tx Ws).length = _
      simp
      omega
    simp at hk
    rw [C_wordKind_word Z h1 h2 hp hs W (w_tx Ws) n 0 q h3 (by omega) h5 (by show q + (w_tx (W :: Ws)).length ≤ 116; omega) ht (hc W List.mem_cons_self) (Or.inl rfl) (by omega) (by omega)]
    unfold w_k
    by_cases d : w_m T p W = true
    · have d2 := w_r_m.mpr d
      rw [if_pos ⟨rfl, d2.1, by rw [d2.2]; omega⟩, if_pos d]
      exact Ok_s h3
    · rw [if_neg (fun z => d (w_r_m.mp ⟨z.2.1, by rw [z.2.2]; omega⟩)), if_neg d]
      have a3 := i_addc (x := l3) (c := (1 : Int32)) (n := 1) rfl (by omega) (by omega)
      refine ih (n - W.length - 1) (q + W.length + 1) (by rw [a3, h3]) (by omega) (i_ofNat (by omega)) (by omega) (fun j hj => ?_) (fun W2 h2 => hc W2 (List.mem_cons_of_mem _ h2)) (by omega)
      have := ht (W.length + 1 + j) (by omega)
      rw [show q + W.length + 1 + j = q + (W.length + 1 + j) by omega, this]
      show (W ++ 32 :: w_tx Ws).getD (W.length + 1 + j) 0 = _
      rw [List.getD_eq_getElem?_getD, List.getD_eq_getElem?_getD, List.getElem?_append_right (by omega), show W.length + 1 + j - W.length = j + 1 by omega]
      rfl
/-- the kind of the word at a place -/
def k_w (T : gM) (p : Nat) : Int := w_k T p w_all 261
theorem C_wordKind {T M : gM} (Z : z_T T M) {p : Nat} {l1 l2 : Int32} (h1 : l1.toInt = (p : Int)) (h2 : l2.toInt = (n_le T p : Int)) (hp : p < n_le T p) (hs : n_le T p ≤ n_s T) : Ok (F_X9_wordKind (some 131) l1 l2 M) (fun v => v.toInt = k_w T p) := by
  delta F_X9_wordKind F_X9_wordKind_b0
  have e := w_text.2
  exact C_wordKind_L10 Z h1 h2 hp hs w_all _ 0 rfl ⟨by decide, by decide⟩ rfl (by rw [e]) (fun j hj => by rw [Nat.zero_add]) (by decide) (by rw [e]; exact n_fu (by decide))
