/-! the reference's reading of bytes, exactly -/
theorem e_gI {M : gM} (H : y_HT M) (k : Nat) : gI 12 M (some 175) k = some (M.2.1 175 k) := by
  unfold gI
  rw [Option.bind_some, if_pos (y_k175 H)]
theorem e_gR {M : gM} {k w : Nat} (H : y_HT M) (e : y_rf k = w) (hw : w ≠ 0) : gR 12 M (some 175) k = some (some w) := by
  unfold gR
  rw [Option.bind_some, if_pos (y_k175 H), H.1.2 k (by rw [e]; exact hw), e]
theorem e_gO {M : gM} (H : y_HT M) : gO 12 M (some 175) = some 175 := by
  unfold gO
  rw [Option.bind_some, if_pos (y_k175 H)]
theorem e_gC {M : gM} (H : y_HT M) : gC 12 M 175 = some () := by
  unfold gC
  rw [if_pos (y_k175 H)]
theorem e_aI {t i n : Nat} {j : Int32} {M : gM} (H : y_HT M) (hk : y_kd i = (t, n)) (ht : t ≤ 23) (h0 : 0 ≤ j.toInt) (h1 : j.toInt < (n : Int)) : aI t M (some i) j = some (M.2.1 i j.toNatClampNeg) := by
  have K := y_kk H (y_cs_of hk ht) hk
  unfold aI
  rw [Option.bind_some, if_pos ⟨by rw [K], by rw [K]; exact gin_of h0 h1⟩]
theorem e_pI {M : gM} (H : y_HT M) (k : Nat) (v : Int32) : pI 12 M (some 175) k v = some (mI M 175 k v) := by
  unfold pI
  rw [Option.bind_some, if_pos (y_k175 H)]
theorem e_sI {i n : Nat} {j v : Int32} {M : gM} (H : y_HT M) (hk : y_kd i = (20, n)) (h0 : 0 ≤ j.toInt) (h1 : j.toInt < (n : Int)) : sI M (some i) j v = some (mI M i j.toNatClampNeg v) := by
  have K := y_kk H (y_cs_of hk (Nat.le_of_ble_eq_true rfl)) hk
  unfold sI
  rw [Option.bind_some, if_pos ⟨by rw [K], by rw [K]; exact gin_of h0 h1⟩]
theorem n_fu {n : Nat} (h : n ≤ 400) : n < g_fuel := Nat.lt_of_le_of_lt h (by unfold g_fuel; omega)
theorem i_of {x : Int32} {n : Nat} (h : x.toInt = (n : Int)) (hn : n ≤ 2000000000) : x = Int32.ofNat n := Int32.toInt_inj.mp (h.trans (i_ofNat hn).symm)
theorem i_cl {x : Int32} {n : Nat} (h : x.toInt = (n : Int)) : x.toNatClampNeg = n := by
  show x.toInt.toNat = n
  omega
/-! the bytes, how many, the place of the reader -/
def n_b (M : gM) : Nat → Int32 := M.2.1 176
def n_s (M : gM) : Nat := (M.2.1 175 1).toInt.toNat
def n_x (M : gM) : Nat := (M.2.1 175 8).toInt.toNat
def n_at (M : gM) (p : Nat) : gM := mI M 175 8 (Int32.ofNat p)
theorem n_s1 {M : gM} (H : y_HT M) : (M.2.1 175 1).toInt = (n_s M : Int) ∧ n_s M ≤ 400 := by
  have h := H.2.1 175 (by decide) 1
  have h1 : 0 ≤ (M.2.1 175 1).toInt := h.1
  have h2 : (M.2.1 175 1).toInt ≤ 400 := h.2
  unfold n_s
  omega
theorem n_x1 {M : gM} (H : y_HT M) : (M.2.1 175 8).toInt = (n_x M : Int) ∧ n_x M ≤ 400 := by
  have h := H.2.1 175 (by decide) 8
  have h1 : 0 ≤ (M.2.1 175 8).toInt := h.1
  have h2 : (M.2.1 175 8).toInt ≤ 400 := h.2
  unfold n_x
  omega
theorem mI_ne {M : gM} {i k : Nat} {v : Int32} {j a : Nat} (h : j ≠ i ∨ a ≠ k) : (mI M i k v).2.1 j a = M.2.1 j a := y_mI2 h
theorem mI_mI {M : gM} {i k : Nat} {v w : Int32} : mI (mI M i k v) i k w = mI M i k w := by
  unfold mI
  refine congrArg (fun f => (M.1, f, M.2.2.1, M.2.2.2)) ?_
  funext a b
  unfold g_up
  by_cases h1 : a = i
  · by_cases h2 : b = k
    · simp [h1, h2]
    · simp [h1, h2]
  · simp [h1]
theorem mI_self {M : gM} {i k : Nat} {v : Int32} (h : M.2.1 i k = v) : mI M i k v = M := by
  subst h
  unfold mI
  have e : g_up M.2.1 i k (M.2.1 i k) = M.2.1 := by
    funext a b
    unfold g_up
    by_cases h1 : a = i
    · by_cases h2 : b = k
      · simp [h1, h2]
      · simp [h1, h2]
    · simp [h1]
  rw [e]
theorem n_at8 {M : gM} {p : Nat} : (n_at M p).2.1 175 8 = Int32.ofNat p := y_mI1
theorem n_atk {M : gM} {p k : Nat} (h : k ≠ 8) : (n_at M p).2.1 175 k = M.2.1 175 k := mI_ne (Or.inr h)
theorem n_ata {M : gM} {p i : Nat} (h : i ≠ 175) : (n_at M p).2.1 i = M.2.1 i := funext (fun _ => mI_ne (Or.inl h))
theorem n_at_b {M : gM} {p : Nat} : n_b (n_at M p) = n_b M := n_ata (by decide)
theorem n_at_s {M : gM} {p : Nat} : n_s (n_at M p) = n_s M := by
  unfold n_s
  rw [n_atk (by decide)]
theorem n_at_x {M : gM} {p : Nat} (h : p ≤ 400) : n_x (n_at M p) = p := by
  unfold n_x
  rw [n_at8, i_ofNat (by omega)]
  omega
theorem n_at_at {M : gM} {p q : Nat} : n_at (n_at M p) q = n_at M q := mI_mI
theorem n_at_self {M : gM} (H : y_HT M) : n_at M (n_x M) = M := mI_self (i_of (n_x1 H).1 (by have := (n_x1 H).2; omega))
theorem n_at_set {M : gM} {p : Nat} (H : y_HT M) (h : p ≤ 400) : y_HT (n_at M p) ∧ y_Fr (2 ^ 8) M (n_at M p) :=
  y_set (M' := n_at M p) (S := 2 ^ 8) H (by decide) rfl rfl y_mI1 (fun j a hj => y_mI2 hj) rfl (by
    show y_rg (0, 400) _
    unfold y_rg
    rw [i_ofNat (by omega)]
    exact ⟨by omega, by show (p : Int) ≤ 400; omega⟩) (by decide)
theorem n_atH {M : gM} {p : Nat} (H : y_HT M) (h : p ≤ 400) : y_HT (n_at M p) := (n_at_set H h).1
theorem n_inc {x : Int32} {n : Nat} (h : x.toInt = (n : Int)) (hn : n ≤ 1000) : x + (1 : Int32) = Int32.ofNat (n + 1) := by
  refine i_of ?_ (by omega)
  rw [i_addc (n := 1) rfl (by omega) (by omega), h]
  rfl
theorem n_next {M : gM} (H : y_HT M) : mI M 175 8 (M.2.1 175 8 + (1 : Int32)) = n_at M (n_x M + 1) := by
  unfold n_at
  rw [n_inc (n_x1 H).1 (by have := (n_x1 H).2; omega)]
/-- where what is true of each byte from a place on ends -/
def n_run (P : Nat → Bool) : Nat → Nat → Nat
  | 0, p => p
  | n + 1, p => if P p = true then n_run P n (p + 1) else p
theorem n_run_le {P : Nat → Bool} : ∀ (n p : Nat), p ≤ n_run P n p ∧ n_run P n p ≤ p + n := by
  intro n
  induction n with
  | zero => intro p; exact ⟨Nat.le_refl _, Nat.le_refl _⟩
  | succ n ih =>
    intro p
    unfold n_run
    by_cases h : P p = true
    · rw [if_pos h]
      have := ih (p + 1)
      omega
    · rw [if_neg h]
      omega
theorem n_run_in {P : Nat → Bool} : ∀ (n p q : Nat), p ≤ q → q < n_run P n p → P q = true := by
  intro n
  induction n with
  | zero =>
    intro p q h1 h2
    unfold n_run at h2
    omega
  | succ n ih =>
    intro p q h1 h2
    unfold n_run at h2
    by_cases h : P p = true
    · rw [if_pos h] at h2
      rcases Nat.lt_or_ge p q with e | e
      · exact ih (p + 1) q e h2
      · have : p = q := by omega
        rw [← this]
        exact h
    · rw [if_neg h] at h2
      omega
/-- with fuel enough it ends at a place where it isn't true -/
theorem n_run_end {P : Nat → Bool} {s : Nat} (hP : ∀ q, s ≤ q → P q = false) : ∀ (n p : Nat), s - p ≤ n → P (n_run P n p) = false := by
  intro n
  induction n with
  | zero =>
    intro p h
    exact hP p (by omega)
  | succ n ih =>
    intro p h
    unfold n_run
    by_cases h1 : P p = true
    · rw [if_pos h1]
      exact ih (p + 1) (by omega)
    · rw [if_neg h1]
      simpa using h1
def n_B (M : gM) (p : Nat) : Bool := decide (p < n_s M ∧ n_b M p = 32)
def n_L (M : gM) (p : Nat) : Bool := decide (p < n_s M ∧ 97 ≤ (n_b M p).toInt ∧ (n_b M p).toInt ≤ 122)
def n_D (M : gM) (p : Nat) : Bool := decide (p < n_s M ∧ 48 ≤ (n_b M p).toInt ∧ (n_b M p).toInt ≤ 57)
theorem n_at_B {M : gM} {p : Nat} : n_B (n_at M p) = n_B M := by
  unfold n_B
  rw [n_at_b, n_at_s]
theorem n_at_L {M : gM} {p : Nat} : n_L (n_at M p) = n_L M := by
  unfold n_L
  rw [n_at_b, n_at_s]
theorem n_at_D {M : gM} {p : Nat} : n_D (n_at M p) = n_D M := by
  unfold n_D
  rw [n_at_b, n_at_s]
theorem n_LD {M : gM} {p : Nat} (h : n_L M p = true) : n_D M p = false := by
  unfold n_L at h
  unfold n_D
  have h2 := of_decide_eq_true h
  exact decide_eq_false (fun z => by omega)
theorem n_BL {M : gM} {p : Nat} (h : n_L M p = true) : n_B M p = false := by
  unfold n_L at h
  unfold n_B
  have h2 := of_decide_eq_true h
  refine decide_eq_false (fun z => ?_)
  rw [z.2] at h2
  exact absurd h2.2.1 (by decide)
theorem n_BD {M : gM} {p : Nat} (h : n_D M p = true) : n_B M p = false := by
  unfold n_D at h
  unfold n_B
  have h2 := of_decide_eq_true h
  refine decide_eq_false (fun z => ?_)
  rw [z.2] at h2
  exact absurd h2.2.1 (by decide)
/-- behind the blanks from a place on -/
def n_sk (M : gM) (p : Nat) : Nat := n_run (n_B M) (n_s M - p) p
def n_le (M : gM) (p : Nat) : Nat := n_run (n_L M) (n_s M - p) p
def n_de (M : gM) (p : Nat) : Nat := n_run (n_D M) (n_s M - p) p
theorem n_sk_le {M : gM} {p : Nat} (h : p ≤ n_s M) : p ≤ n_sk M p ∧ n_sk M p ≤ n_s M := by
  have := n_run_le (P := n_B M) (n_s M - p) p
  unfold n_sk
  omega
theorem n_le_le {M : gM} {p : Nat} (h : p ≤ n_s M) : p ≤ n_le M p ∧ n_le M p ≤ n_s M := by
  have := n_run_le (P := n_L M) (n_s M - p) p
  unfold n_le
  omega
theorem n_de_le {M : gM} {p : Nat} (h : p ≤ n_s M) : p ≤ n_de M p ∧ n_de M p ≤ n_s M := by
  have := n_run_le (P := n_D M) (n_s M - p) p
  unfold n_de
  omega
theorem n_le_step {M : gM} {p : Nat} (h : n_L M p = true) : n_le M p = n_le M (p + 1) := by
  have h2 : p < n_s M := (of_decide_eq_true h).1
  unfold n_le
  rw [show n_s M - p = (n_s M - (p + 1)) + 1 by omega]
  show (if n_L M p = true then _ else _) = _
  rw [if_pos h]
theorem n_run_stop {P : Nat → Bool} {p : Nat} (h : ¬ P p = true) : ∀ n, n_run P n p = p := by
  intro n
  cases n with
  | zero => rfl
  | succ n =>
    unfold n_run
    rw [if_neg h]
theorem n_le_stop {M : gM} {p : Nat} (h : ¬ n_L M p = true) : n_le M p = p := n_run_stop h _
theorem n_de_step {M : gM} {p : Nat} (h : n_D M p = true) : n_de M p = n_de M (p + 1) := by
  have h2 : p < n_s M := (of_decide_eq_true h).1
  unfold n_de
  rw [show n_s M - p = (n_s M - (p + 1)) + 1 by omega]
  show (if n_D M p = true then _ else _) = _
  rw [if_pos h]
theorem n_de_stop {M : gM} {p : Nat} (h : ¬ n_D M p = true) : n_de M p = p := n_run_stop h _
theorem n_sk_step {M : gM} {p : Nat} (h : n_B M p = true) : n_sk M p = n_sk M (p + 1) := by
  have h2 : p < n_s M := (of_decide_eq_true h).1
  unfold n_sk
  rw [show n_s M - p = (n_s M - (p + 1)) + 1 by omega]
  show (if n_B M p = true then _ else _) = _
  rw [if_pos h]
theorem n_sk_stop {M : gM} {p : Nat} (h : ¬ n_B M p = true) : n_sk M p = p := n_run_stop h _
theorem n_sk_end {M : gM} {p : Nat} : n_B M (n_sk M p) = false := n_run_end (P := n_B M) (s := n_s M) (fun q h => decide_eq_false (fun z => by omega)) _ _ (Nat.le_refl _)
theorem n_le_end {M : gM} {p : Nat} : n_L M (n_le M p) = false := n_run_end (P := n_L M) (s := n_s M) (fun q h => decide_eq_false (fun z => by omega)) _ _ (Nat.le_refl _)
theorem n_de_end {M : gM} {p : Nat} : n_D M (n_de M p) = false := n_run_end (P := n_D M) (s := n_s M) (fun q h => decide_eq_false (fun z => by omega)) _ _ (Nat.le_refl _)
theorem n_at_sk {M : gM} {p q : Nat} : n_sk (n_at M p) q = n_sk M q := by
  unfold n_sk
  rw [n_at_B, n_at_s]
theorem n_at_le {M : gM} {p q : Nat} : n_le (n_at M p) q = n_le M q := by
  unfold n_le
  rw [n_at_L, n_at_s]
theorem n_at_de {M : gM} {p q : Nat} : n_de (n_at M p) q = n_de M q := by
  unfold n_de
  rw [n_at_D, n_at_s]
/-- the sign at a place, NONE behind the last -/
def n_c (M : gM) (p : Nat) : Int32 := if p < n_s M then n_b M p &&& 255 else -1
theorem R_see_L0 : ∀ (n : Nat) {M : gM}, y_HT M → n_x M ≤ n_s M → n_s M - n_x M < n → F_X12_see_L0 n (some 175) M = some (n_c M (n_sk M (n_x M)), n_at M (n_sk M (n_x M))) := by
  intro n
  induction n with
  | zero => intro M H h1 h2; omega
  | succ n ih =>
    intro M H h1 h2
    show F_X12_see_b0 (F_X12_see_L0 n) (some 175) M = _
    delta F_X12_see_b0
    have x1 := n_x1 H
    have s1 := n_s1 H
    have z : (32 : Int32).toInt = 32 := rfl
    have stop : ¬ n_B M (n_x M) = true → F_X12_see_b38 (some 175) M = some (n_c M (n_sk M (n_x M)), n_at M (n_sk M (n_x M))) := by
      intro h
      rw [n_sk_stop h, n_at_self H]
      delta F_X12_see_b38
      unfold n_c
      rw [e_gI H, Option.bind_some, e_gI H, Option.bind_some]
      by_cases c : M.2.1 175 1 ≤ M.2.1 175 8
      · have := i_le c
        rw [if_pos c, if_neg (by omega)]
      · have := i_nle c
        rw [if_neg c, if_pos (by omega), e_gR H (w := 176) rfl (by decide), Option.bind_some, Option.bind_some, e_aI H (t := 22) (i := 176) (n := 400) rfl (by decide) (by omega) (by omega), Option.bind_some, i_cl x1.1]
        rfl
    rw [e_gI H, Option.bind_some, e_gI H, Option.bind_some]
    by_cases c : M.2.1 175 1 ≤ M.2.1 175 8
    · have := i_le c
      rw [if_pos c]
      exact stop (fun z => by have := (of_decide_eq_true z).1; omega)
    · have hc := i_nle c
      rw [if_neg c, e_gR H (w := 176) rfl (by decide), Option.bind_some, Option.bind_some, e_aI H (t := 22) (i := 176) (n := 400) rfl (by decide) (by omega) (by omega), Option.bind_some, i_cl x1.1]
      by_cases c2 : M.2.1 176 (n_x M) = 32
      · rw [if_pos c2, Option.bind_some, e_pI H, Option.bind_some, n_next H]
        have hB : n_B M (n_x M) = true := decide_eq_true ⟨by omega, c2⟩
        rw [ih (n_atH H (by omega)) (by rw [n_at_x (by omega), n_at_s]; omega) (by rw [n_at_x (by omega), n_at_s]; omega)]
        rw [n_at_x (by omega), n_at_sk, n_at_at, ← n_sk_step hB]
        unfold n_c
        rw [n_at_s, n_at_b]
      · rw [if_neg c2]
        exact stop (fun z => c2 (of_decide_eq_true z).2)
theorem R_see {M : gM} (H : y_HT M) (h : n_x M ≤ n_s M) : F_X12_see (some 175) M = some (n_c M (n_sk M (n_x M)), n_at M (n_sk M (n_x M))) := by
  have := (n_s1 H).2
  exact R_see_L0 _ H h (n_fu (by omega))
theorem R_isLetter {M : gM} {l : Int32} {p : Nat} (H : y_HT M) (h : l.toInt = (p : Int)) : F_X12_isLetter (some 175) l M = some (if n_L M p = true then 1 else 0) := by
  delta F_X12_isLetter F_X12_isLetter_b0 F_X12_isLetter_b34
  have s1 := n_s1 H
  have z1 : (97 : Int32).toInt = 97 := rfl
  have z2 : (122 : Int32).toInt = 122 := rfl
  rw [e_gI H, Option.bind_some]
  by_cases c : M.2.1 175 1 ≤ l
  · have := i_le c
    rw [if_pos c, if_neg (fun z => by have := (of_decide_eq_true z).1; omega)]
  · have hc := i_nle c
    rw [if_neg c, e_gR H (w := 176) rfl (by decide), Option.bind_some, e_aI H (t := 22) (i := 176) (n := 400) rfl (by decide) (by omega) (by omega), Option.bind_some, i_cl h]
    by_cases c2 : M.2.1 176 p < 97
    · have := i_lt c2
      rw [if_pos c2, if_neg (fun z => by have h9 := (of_decide_eq_true z).2.1; unfold n_b at h9; omega)]
    · have hc2 := i_nlt c2
      rw [if_neg c2, Option.bind_some, e_aI H (t := 22) (i := 176) (n := 400) rfl (by decide) (by omega) (by omega), Option.bind_some, i_cl h]
      by_cases c3 : (122 : Int32) < M.2.1 176 p
      · have := i_lt c3
        rw [if_pos c3, if_neg (fun z => by have h9 := (of_decide_eq_true z).2.2; unfold n_b at h9; omega)]
      · have hc3 := i_nlt c3
        rw [if_neg c3, if_pos (show n_L M p = true from decide_eq_true ⟨by omega, by unfold n_b; omega, by unfold n_b; omega⟩)]
theorem R_isDigit {M : gM} {l : Int32} {p : Nat} (H : y_HT M) (h : l.toInt = (p : Int)) : F_X12_isDigit (some 175) l M = some (if n_D M p = true then 1 else 0) := by
  delta F_X12_isDigit F_X12_isDigit_b0 F_X12_isDigit_b34
  have s1 := n_s1 H
  have z1 : (48 : Int32).toInt = 48 := rfl
  have z2 : (57 : Int32).toInt = 57 := rfl
  rw [e_gI H, Option.bind_some]
  by_cases c : M.2.1 175 1 ≤ l
  · have := i_le c
    rw [if_pos c, if_neg (fun z => by have := (of_decide_eq_true z).1; omega)]
  · have hc := i_nle c
    rw [if_neg c, e_gR H (w := 176) rfl (by decide), Option.bind_some, e_aI H (t := 22) (i := 176) (n := 400) rfl (by decide) (by omega) (by omega), Option.bind_some, i_cl h]
    by_cases c2 : M.2.1 176 p < 48
    · have := i_lt c2
      rw [if_pos c2, if_neg (fun z => by have h9 := (of_decide_eq_true z).2.1; unfold n_b at h9; omega)]
    · have hc2 := i_nlt c2
      rw [if_neg c2, Option.bind_some, e_aI H (t := 22) (i := 176) (n := 400) rfl (by decide) (by omega) (by omega), Option.bind_some, i_cl h]
      by_cases c3 : (57 : Int32) < M.2.1 176 p
      · have := i_lt c3
        rw [if_pos c3, if_neg (fun z => by have h9 := (of_decide_eq_true z).2.2; unfold n_b at h9; omega)]
      · have hc3 := i_nlt c3
        rw [if_neg c3, if_pos (show n_D M p = true from decide_eq_true ⟨by omega, by unfold n_b; omega, by unfold n_b; omega⟩)]
theorem R_passWord_L0 : ∀ (n : Nat) {M : gM}, y_HT M → n_x M ≤ n_s M → n_s M - n_x M < n → F_X12_passWord_L0 n (some 175) M = some (n_at M (n_le M (n_x M))) := by
  intro n
  induction n with
  | zero => intro M H h1 h2; omega
  | succ n ih =>
    intro M H h1 h2
    show F_X12_passWord_b0 (F_X12_passWord_L0 n) (some 175) M = _
    delta F_X12_passWord_b0
    have x1 := n_x1 H
    have s1 := n_s1 H
    rw [e_gI H, Option.bind_some, e_gO H, Option.bind_some, R_isLetter H x1.1, Option.bind_some]
    by_cases c : n_L M (n_x M) = true
    · have hlt : n_x M < n_s M := (of_decide_eq_true c).1
      rw [if_pos c, if_neg (by decide), e_gI H, Option.bind_some, e_pI H, Option.bind_some, n_next H]
      rw [ih (n_atH H (by omega)) (by rw [n_at_x (by omega), n_at_s]; omega) (by rw [n_at_x (by omega), n_at_s]; omega)]
      rw [n_at_x (by omega), n_at_le, n_at_at, ← n_le_step c]
    · rw [if_neg c, if_pos rfl, n_le_stop c, n_at_self H]
theorem R_passWord {M : gM} (H : y_HT M) (h : n_x M ≤ n_s M) : F_X12_passWord (some 175) M = some (n_at M (n_le M (n_x M))) := by
  have := (n_s1 H).2
  exact R_passWord_L0 _ H h (n_fu (by omega))
/-- the first letters of a word, eight at most, as a number -/
def n_ac (b : Nat → Int32) (p : Nat) : Nat → Int64
  | 0 => 0
  | n + 1 => (n_ac b p n <<< ((8 : Int32).toInt64 &&& 63)) ||| (b (p + n)).toInt64
theorem n_ac_c {b c : Nat → Int32} {p : Nat} (h : ∀ q, b q = c q) : ∀ n, n_ac b p n = n_ac c p n := by
  intro n
  induction n with
  | zero => rfl
  | succ n ih =>
    unfold n_ac
    rw [ih, h]
/-- the word at a place, behind blanks, is w -/
def n_w (M : gM) (p : Nat) (w : Int64) : Bool := decide (p < n_le M p ∧ n_le M p < p + 9 ∧ n_ac (n_b M) p (n_le M p - p) = w)
theorem n_at_w {M : gM} {p q : Nat} {w : Int64} : n_w (n_at M p) q w = n_w M q w := by
  unfold n_w
  rw [n_at_le, n_at_b]
theorem n_cmp {x y : Int64} : (lg_cmp x y = 0) ↔ x = y := by
  unfold lg_cmp
  by_cases h1 : x > y
  · rw [if_pos h1]
    refine ⟨fun h => absurd h (by decide), fun h => ?_⟩
    subst h
    exact absurd h1 (by rw [gt_iff_lt, Int64.lt_iff_toInt_lt]; omega)
  · rw [if_neg h1]
    by_cases h2 : x = y
    · rw [if_pos h2]
      exact ⟨fun _ => h2, fun _ => rfl⟩
    · rw [if_neg h2]
      exact ⟨fun h => absurd h (by decide), fun h => absurd h h2⟩
theorem R_isWord_L10 {w : Int64} : ∀ (n k : Nat) {l5 : Int32} {l3 : Int64} {M : gM}, y_HT M → n_x M ≤ n_s M → l5.toInt = (k : Int) → n_x M + k ≤ n_le M (n_x M) → l3 = n_ac (n_b M) (n_x M) (min k 8) → n_s M - (n_x M + k) < n → F_X12_isWord_L10 n (some 175) w l3 l5 M = some (if n_w M (n_x M) w = true then 1 else 0, M) := by
  intro n
  induction n with
  | zero => intro k l5 l3 M H h1 h2 h3 h4 h5; omega
  | succ n ih =>
    intro k l5 l3 M H h1 h2 h3 h4 h5
    show F_X12_isWord_b10 (F_X12_isWord_L10 n) (some 175) w l3 l5 M = _
    delta F_X12_isWord_b10 F_X12_isWord_b50 F_X12_isWord_b78
    have x1 := n_x1 H
    have s1 := n_s1 H
    have z0 : (0 : Int32).toInt = 0 := rfl
    have z9 : (9 : Int32).toInt = 9 := rfl
    have z8 : (8 : Int32).toInt = 8 := rfl
    have le1 := n_le_le h1
    have a1 := i_add (x := M.2.1 175 8) (y := l5) (by omega) (by omega)
    have a2 : (M.2.1 175 8 + l5).toInt = ((n_x M + k : Nat) : Int) := by omega
    have inc := n_inc h2 (by omega)
    rw [e_gI H, Option.bind_some, e_gO H, Option.bind_some, R_isLetter H a2, Option.bind_some]
    by_cases c : n_L M (n_x M + k) = true
    · have hlt : n_x M + k < n_s M := (of_decide_eq_true c).1
      have h3' : n_x M + (k + 1) ≤ n_le M (n_x M) := by
        rcases Nat.lt_or_ge (n_x M + k) (n_le M (n_x M)) with e | e
        · omega
        · have e2 : n_x M + k = n_le M (n_x M) := by omega
          rw [e2, n_le_end] at c
          cases c
      rw [if_pos c, if_neg (by decide)]
      have go : ∀ {l : Int64}, l = n_ac (n_b M) (n_x M) (min (k + 1) 8) → F_X12_isWord_L10 n (some 175) w l (l5 + 1) M = some (if n_w M (n_x M) w = true then 1 else 0, M) := by
        intro l hl
        exact ih (k + 1) H h1 (by rw [inc, i_ofNat (by omega)]) h3' hl (by omega)
      by_cases c8 : (8 : Int32) ≤ l5
      · have := i_le c8
        rw [if_pos c8]
        exact go (by rw [h4]; congr 1; omega)
      · have h8 := i_nle c8
        rw [if_neg c8, e_gR H (w := 176) rfl (by decide), Option.bind_some, e_gI H, Option.bind_some, e_aI H (t := 22) (i := 176) (n := 400) rfl (by decide) (by omega) (by omega), Option.bind_some, i_cl a2]
        refine go ?_
        rw [h4, show min (k + 1) 8 = min k 8 + 1 by omega]
        show _ = (n_ac (n_b M) (n_x M) (min k 8) <<< ((8 : Int32).toInt64 &&& 63)) ||| (n_b M (n_x M + min k 8)).toInt64
        rw [show min k 8 = k by omega]
        rfl
    · have e2 : n_le M (n_x M) = n_x M + k := by
        rcases Nat.lt_or_ge (n_x M + k) (n_le M (n_x M)) with e | e
        · exact absurd (n_run_in _ _ (n_x M + k) (by omega) e) c
        · omega
      rw [if_neg c, if_pos rfl]
      unfold n_w
      rw [e2]
      by_cases c0 : l5 ≤ 0
      · have := i_le c0
        rw [if_pos c0, if_neg (fun z => by have := (of_decide_eq_true z).1; omega)]
      · have h0 := i_nle c0
        rw [if_neg c0]
        by_cases c9 : (9 : Int32) ≤ l5
        · have := i_le c9
          rw [if_pos c9, if_neg (fun z => by have := (of_decide_eq_true z).2.1; omega)]
        · have h9 := i_nle c9
          rw [if_neg c9, h4, show min k 8 = k by omega, show n_x M + k - n_x M = k by omega]
          by_cases ce : n_ac (n_b M) (n_x M) k = w
          · rw [if_pos (n_cmp.mpr ce), if_pos (decide_eq_true ⟨by omega, by omega, ce⟩)]
          · rw [if_neg (fun z => ce (n_cmp.mp z)), if_neg (fun z => ce (of_decide_eq_true z).2.2)]
theorem R_isWord {w : Int64} {M : gM} (H : y_HT M) (h : n_x M ≤ n_s M) : F_X12_isWord (some 175) w M = some (if n_w M (n_sk M (n_x M)) w = true then 1 else 0, n_at M (n_sk M (n_x M))) := by
  have s1 := n_s1 H
  have k1 := n_sk_le h
  have H1 : y_HT (n_at M (n_sk M (n_x M))) := n_atH H (by omega)
  delta F_X12_isWord F_X12_isWord_b0
  rw [e_gO H, Option.bind_some, R_see H h, Option.bind_some]
  show F_X12_isWord_L10 g_fuel (some 175) w 0 0 (n_at M (n_sk M (n_x M))) = _
  rw [R_isWord_L10 g_fuel 0 (l5 := 0) (l3 := 0) H1 (by rw [n_at_x (by omega), n_at_s]; omega) rfl (by rw [n_at_x (by omega), n_at_le]; exact (n_le_le (by omega)).1) rfl (by rw [n_at_x (by omega), n_at_s]; exact n_fu (by omega))]
  rw [n_at_x (by omega), n_at_w]
theorem R_takesWord {w : Int64} {M : gM} (H : y_HT M) (h : n_x M ≤ n_s M) : F_X12_takesWord (some 175) w M = some (if n_w M (n_sk M (n_x M)) w = true then (1, n_at M (n_le M (n_sk M (n_x M)))) else (0, n_at M (n_sk M (n_x M)))) := by
  have s1 := n_s1 H
  have k1 := n_sk_le h
  have H1 : y_HT (n_at M (n_sk M (n_x M))) := n_atH H (by omega)
  delta F_X12_takesWord F_X12_takesWord_b0
  rw [e_gO H, Option.bind_some, R_isWord H h, Option.bind_some]
  by_cases c : n_w M (n_sk M (n_x M)) w = true
  · rw [if_pos c, if_pos c]
    dsimp only
    rw [if_neg (by decide), e_gC H1, Option.bind_some, R_passWord H1 (by rw [n_at_x (by omega), n_at_s]; omega), Option.bind_some, n_at_x (by omega), n_at_at, n_at_le]
  · rw [if_neg c, if_neg c]
    dsimp only
    rw [if_pos rfl]
/-- the FAULT, if there was none yet -/
def n_f (M : gM) (k p : Int32) : gM := if M.2.1 175 9 = 0 then mI M 175 9 (((1 : Int32) + ((8 : Int32) * p)) + k) else M
theorem R_fails {k p : Int32} {M : gM} (H : y_HT M) : F_X12_fails (some 175) k p M = some (0, n_f M k p) := by
  delta F_X12_fails F_X12_fails_b0 F_X12_fails_b19
  unfold n_f
  rw [e_gI H, Option.bind_some]
  by_cases c : M.2.1 175 9 = 0
  · rw [if_pos c, if_pos c, e_pI H, Option.bind_some]
  · rw [if_neg c, if_neg c]
theorem n_f_set {k p : Int32} {M : gM} (H : y_HT M) : y_HT (n_f M k p) ∧ y_Fr (2 ^ 9) M (n_f M k p) := by
  unfold n_f
  by_cases c : M.2.1 175 9 = 0
  · rw [if_pos c]
    exact y_set (S := 2 ^ 9) H (by decide) rfl rfl y_mI1 (fun j a hj => y_mI2 hj) rfl (y_full rfl) (by decide)
  · rw [if_neg c]
    exact ⟨H, y_rf0 _ _⟩
/-- digits' value, five at most -/
def n_dv (b : Nat → Int32) (p : Nat) : Nat → Int32
  | 0 => 0
  | n + 1 => (((10 : Int32) * n_dv b p n) + b (p + n)) - (48 : Int32)
theorem n_dv_r {M : gM} {p : Nat} : ∀ n, (∀ q, p ≤ q → q < p + n → n_D M q = true) → n ≤ 5 → 0 ≤ (n_dv (n_b M) p n).toInt ∧ (n_dv (n_b M) p n).toInt < 10 ^ n := by
  intro n
  induction n with
  | zero => intro _ _; exact ⟨Int.le_refl 0, (by decide : (0 : Int) < 1)⟩
  | succ n ih =>
    intro h hn
    have i1 := ih (fun q h1 h2 => h q h1 (by omega)) (by omega)
    have hD := (of_decide_eq_true (h (p + n) (by omega) (by omega))).2
    have hp : (10 : Int) ^ n ≤ 10 ^ 4 := by
      rcases (by omega : n = 0 ∨ n = 1 ∨ n = 2 ∨ n = 3 ∨ n = 4) with e | e | e | e | e <;> subst e <;> decide
    have hs : (10 : Int) ^ (n + 1) = 10 * 10 ^ n := by
      rw [Int.pow_succ, Int.mul_comm]
    unfold n_dv
    have a1 := i_mulL (c := (10 : Int32)) (x := n_dv (n_b M) p n) (n := 10) rfl (by omega) (by omega)
    have a2 := i_add (x := (10 : Int32) * n_dv (n_b M) p n) (y := n_b M (p + n)) (by omega) (by omega)
    have a3 := i_subc (x := (10 : Int32) * n_dv (n_b M) p n + n_b M (p + n)) (c := (48 : Int32)) (n := 48) rfl (by omega) (by omega)
    rw [a3, a2, a1, hs]
    omega
/-- what a NUMBER here is read as -/
def n_v (M : gM) (p : Nat) : Int32 := n_dv (n_b M) p (min (n_de M p - p) 5)
theorem n_v_r {M : gM} {p : Nat} : 0 ≤ (n_v M p).toInt ∧ (n_v M p).toInt ≤ 99999 := by
  have h := n_dv_r (M := M) (p := p) (min (n_de M p - p) 5) (fun q h1 h2 => n_run_in _ _ q h1 (by show q < n_de M p; omega)) (by omega)
  have hp : (10 : Int) ^ (min (n_de M p - p) 5) ≤ 10 ^ 5 := by
    rcases (by omega : min (n_de M p - p) 5 = 0 ∨ min (n_de M p - p) 5 = 1 ∨ min (n_de M p - p) 5 = 2 ∨ min (n_de M p - p) 5 = 3 ∨ min (n_de M p - p) 5 = 4 ∨ min (n_de M p - p) 5 = 5) with e | e | e | e | e | e <;> rw [e] <;> decide
  unfold n_v
  omega
/-- whether a NUMBER of a range stands at a place -/
def n_ok (M : gM) (p : Nat) (lo hi : Int) : Bool := decide (n_de M p ≤ p + 5 ∧ lo ≤ (n_v M p).toInt ∧ (n_v M p).toInt ≤ hi)
/-- behind a NUMBER -/
def n_an (M : gM) (p : Nat) : gM := mI (n_at M (n_de M p)) 175 10 (n_v M p)
theorem n_an_set {M : gM} {p : Nat} (H : y_HT M) (h : p ≤ n_s M) : y_HT (n_an M p) ∧ y_Fr (2 ^ 8 + 2 ^ 10) M (n_an M p) := by
  have s1 := n_s1 H
  have d1 := n_de_le h
  obtain ⟨H1, f1⟩ := n_at_set (p := n_de M p) H (by omega)
  obtain ⟨H2, f2⟩ := y_set (M' := n_an M p) (S := 2 ^ 8 + 2 ^ 10) H1 (i := 175) (k := 10) (by decide) rfl rfl y_mI1 (fun j a hj => y_mI2 hj) rfl (y_full rfl) (by decide)
  exact ⟨H2, y_tr (y_fl (by decide) f1) f2⟩
theorem R_numberHere_L34 {lo hi : Int32} {p : Nat} : ∀ (n : Nat) {l3 l4 : Int32} {M : gM}, y_HT M → n_x M ≤ n_s M → l3.toInt = (p : Int) → p ≤ n_x M → n_x M ≤ n_de M p → l4 = n_dv (n_b M) p (min (n_x M - p) 5) → n_s M - n_x M < n →
    F_X12_numberHere_L34 n (some 175) lo hi l3 l4 M = some (if n_ok M p lo.toInt hi.toInt = true then (1, n_an M p) else (0, n_f (n_an M p) 1 l3)) := by
  intro n
  induction n with
  | zero => intro l3 l4 M H h1 h2 h3 h4 h5 h6; omega
  | succ n ih =>
    intro l3 l4 M H h1 h2 h3 h4 h5 h6
    show F_X12_numberHere_b34 (F_X12_numberHere_L34 n) (some 175) lo hi l3 l4 M = _
    delta F_X12_numberHere_b34 F_X12_numberHere_b75
    have x1 := n_x1 H
    have s1 := n_s1 H
    have z5 : (5 : Int32).toInt = 5 := rfl
    have d1 := n_de_le (M := M) (p := p) (by omega)
    have a1 := i_sub (x := M.2.1 175 8) (y := l3) (by omega) (by omega)
    rw [e_gI H, Option.bind_some, e_gO H, Option.bind_some, R_isDigit H x1.1, Option.bind_some]
    by_cases c : n_D M (n_x M) = true
    · have hlt : n_x M < n_s M := (of_decide_eq_true c).1
      have h4' : n_x M + 1 ≤ n_de M p := by
        rcases Nat.lt_or_ge (n_x M) (n_de M p) with e | e
        · omega
        · have e2 : n_x M = n_de M p := by omega
          rw [e2, n_de_end] at c
          cases c
      have go : ∀ {l : Int32}, l = n_dv (n_b M) p (min (n_x M + 1 - p) 5) → F_X12_numberHere_L34 n (some 175) lo hi l3 l (n_at M (n_x M + 1)) = some (if n_ok M p lo.toInt hi.toInt = true then (1, n_an M p) else (0, n_f (n_an M p) 1 l3)) := by
        intro l hl
        rw [ih (n_atH H (by omega)) (by rw [n_at_x (by omega), n_at_s]; omega) h2 (by rw [n_at_x (by omega)]; omega) (by rw [n_at_x (by omega), n_at_de]; omega) (by rw [n_at_x (by omega), n_at_b]; exact hl) (by rw [n_at_x (by omega), n_at_s]; omega)]
        unfold n_ok n_an n_v
        rw [n_at_de, n_at_b, n_at_at]
      rw [if_pos c, if_neg (by decide)]
      simp only [e_gI H, Option.bind_some]
      by_cases c5 : (5 : Int32) ≤ M.2.1 175 8 - l3
      · have := i_le c5
        rw [if_pos c5, e_pI H, Option.bind_some, n_next H]
        exact go (by rw [h5]; congr 1; omega)
      · have h5' := i_nle c5
        rw [if_neg c5, e_gR H (w := 176) rfl (by decide), Option.bind_some, e_aI H (t := 22) (i := 176) (n := 400) rfl (by decide) (by omega) (by omega), Option.bind_some, i_cl x1.1, e_pI H, Option.bind_some, n_next H]
        refine go ?_
        rw [h5, show min (n_x M + 1 - p) 5 = min (n_x M - p) 5 + 1 by omega]
        show _ = (((10 : Int32) * n_dv (n_b M) p (min (n_x M - p) 5)) + n_b M (p + min (n_x M - p) 5)) - (48 : Int32)
        rw [show p + min (n_x M - p) 5 = n_x M by omega]
        rfl
    · have e2 : n_de M p = n_x M := by
        rcases Nat.lt_or_ge (n_x M) (n_de M p) with e | e
        · exact absurd (n_run_in _ _ (n_x M) h3 e) c
        · omega
      have e4 : l4 = n_v M p := by
        rw [h5]
        unfold n_v
        rw [e2]
      have e5 : mI M 175 10 l4 = n_an M p := by
        unfold n_an
        rw [e2, n_at_self H, e4]
      have H2 : y_HT (n_an M p) := (n_an_set H (by omega)).1
      have e8 : (n_an M p).2.1 175 8 = M.2.1 175 8 := by
        rw [← e5]
        exact mI_ne (Or.inr (by decide))
      rw [if_neg c, if_pos rfl, e_pI H, Option.bind_some, e5, e_gI H2, Option.bind_some, e8]
      have bad : n_ok M p lo.toInt hi.toInt ≠ true → F_X12_numberHere_b117 (some 175) l3 (n_an M p) = some (if n_ok M p lo.toInt hi.toInt = true then (1, n_an M p) else (0, n_f (n_an M p) 1 l3)) := by
        intro h
        rw [if_neg h]
        delta F_X12_numberHere_b117
        rw [e_gO H2, Option.bind_some, R_fails H2, Option.bind_some]
        dsimp only
        rw [if_pos rfl]
      by_cases c5 : (5 : Int32) < M.2.1 175 8 - l3
      · have := i_lt c5
        rw [if_pos c5]
        exact bad (fun z => by have := (of_decide_eq_true z).1; omega)
      · have h5' := i_nlt c5
        rw [if_neg c5]
        obtain ⟨v6, ev, r1, r2, r3⟩ := S_X12_in' (v := l4) (a := lo.toInt64) (b := hi.toInt64) (lo := lo.toInt) (hi := hi.toInt) (M := n_an M p) (Int32.toInt_toInt64 _) (Int32.toInt_toInt64 _)
        rw [ev, Option.bind_some]
        rw [e4] at r2 r3
        by_cases c6 : v6 = 0
        · rw [if_pos c6]
          refine bad (fun z => r3 (by rw [c6]; rfl) (of_decide_eq_true z).2)
        · rw [if_neg c6, if_pos (show n_ok M p lo.toInt hi.toInt = true from decide_eq_true ⟨by omega, r2 (i_ne c6)⟩)]
          rfl
theorem n_f_c {M : gM} {k p q : Int32} (h : p = q) : n_f M k p = n_f M k q := by rw [h]
theorem R_numberHere {lo hi : Int32} {M : gM} {p : Nat} (H : y_HT M) (h : n_x M ≤ n_s M) (hp : p = n_sk M (n_x M)) : F_X12_numberHere (some 175) lo hi M = some (if n_D M p = true then (if n_ok M p lo.toInt hi.toInt = true then (1, n_an M p) else (0, n_f (n_an M p) 1 (Int32.ofNat p))) else (0, n_f (n_at M p) 0 (Int32.ofNat p))) := by
  subst hp
  have s1 := n_s1 H
  have k1 := n_sk_le h
  have H1 : y_HT (n_at M (n_sk M (n_x M))) := n_atH H (by omega)
  have xe : (n_at M (n_sk M (n_x M))).2.1 175 8 = Int32.ofNat (n_sk M (n_x M)) := n_at8
  have xi : (Int32.ofNat (n_sk M (n_x M))).toInt = ((n_sk M (n_x M) : Nat) : Int) := i_ofNat (by omega)
  delta F_X12_numberHere F_X12_numberHere_b0
  rw [e_gO H, Option.bind_some, R_see H h, Option.bind_some]
  dsimp only
  rw [e_gI H1, Option.bind_some, e_gC H1, Option.bind_some, xe, R_isDigit H1 xi, Option.bind_some, n_at_D]
  by_cases c : n_D M (n_sk M (n_x M)) = true
  · rw [if_pos c, if_pos c, if_neg (by decide), Option.bind_some]
    rw [R_numberHere_L34 g_fuel (p := n_sk M (n_x M)) H1 (by rw [n_at_x (by omega), n_at_s]; omega) xi (by rw [n_at_x (by omega)]; exact Nat.le_refl _) (by rw [n_at_x (by omega), n_at_de]; exact (n_de_le (by omega)).1) (by rw [n_at_x (by omega), Nat.sub_self]; rfl) (by rw [n_at_x (by omega), n_at_s]; exact n_fu (by omega))]
    have e1 : n_an (n_at M (n_sk M (n_x M))) (n_sk M (n_x M)) = n_an M (n_sk M (n_x M)) := by
      unfold n_an n_v
      rw [n_at_de, n_at_b, n_at_at]
    have e2 : n_ok (n_at M (n_sk M (n_x M))) (n_sk M (n_x M)) lo.toInt hi.toInt = n_ok M (n_sk M (n_x M)) lo.toInt hi.toInt := by
      unfold n_ok n_v
      rw [n_at_de, n_at_b]
    rw [e1, e2]
  · rw [if_neg c, if_neg c, if_pos rfl, Option.bind_some, R_fails H1, Option.bind_some]
    dsimp only
    rw [if_pos (Or.inl rfl)]
