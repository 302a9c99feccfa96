/-! the class's TAPE, exactly: T is a memory whose reference's tape holds the same bytes -/
theorem t_gI {c i k : Nat} {M : gM} (h : g_k M i = (c, 0)) : gI c M (some i) k = some (M.2.1 i k) := by
  unfold gI
  rw [Option.bind_some, if_pos h]
theorem t_gR {c i k : Nat} {w : Option Nat} {M : gM} (h : g_k M i = (c, 0)) (e : M.2.2.2 i k = w) : gR c M (some i) k = some w := by
  unfold gR
  rw [Option.bind_some, if_pos h, e]
theorem t_gO {c i : Nat} {M : gM} (h : g_k M i = (c, 0)) : gO c M (some i) = some i := by
  unfold gO
  rw [Option.bind_some, if_pos h]
theorem t_gC {c i : Nat} {M : gM} (h : g_k M i = (c, 0)) : gC c M i = some () := by
  unfold gC
  rw [if_pos h]
theorem t_aI {t i n : Nat} {j : Int32} {M : gM} (h : g_k M i = (t, n)) (h0 : 0 ≤ j.toInt) (h1 : j.toInt < (n : Int)) : aI t M (some i) j = some (M.2.1 i j.toNatClampNeg) := by
  unfold aI
  rw [Option.bind_some, if_pos ⟨by rw [h], by rw [h]; exact gin_of h0 h1⟩]
theorem t_pI {c i k : Nat} {v : Int32} {M : gM} (h : g_k M i = (c, 0)) : pI c M (some i) k v = some (mI M i k v) := by
  unfold pI
  rw [Option.bind_some, if_pos h]
theorem t_sI {i n : Nat} {j v : Int32} {M : gM} (h : g_k M i = (20, n)) (h0 : 0 ≤ j.toInt) (h1 : j.toInt < (n : Int)) : sI M (some i) j v = some (mI M i j.toNatClampNeg v) := by
  unfold sI
  rw [Option.bind_some, if_pos ⟨by rw [h], by rw [h]; exact gin_of h0 h1⟩]
theorem t_aN {t i n : Nat} {M : gM} (h : g_k M i = (t, n)) (ht : 20 ≤ t ∧ t < 27) : aN M (some i) = some (Int32.ofNat n) := by
  unfold aN
  rw [Option.bind_some, if_pos (by rw [h]; exact ht), h]
def z_L (M : gM) : Prop := (((g_k M 131 = (9, 0) ∧ g_k M 132 = (22, 400)) ∧ (g_k M 133 = (20, 401) ∧ g_k M 134 = (20, 401)) ∧ g_k M 135 = (20, 401)) ∧
  ((g_k M 148 = (7, 0) ∧ g_k M 149 = (20, 400)) ∧ g_k M 150 = (20, 36))) ∧
  ((M.2.2.2 131 0 = some 132 ∧ M.2.2.2 131 1 = some 133) ∧ M.2.2.2 131 2 = some 134 ∧ M.2.2.2 131 3 = some 135) ∧
  ((M.2.2.2 148 0 = some 131 ∧ M.2.2.2 148 1 = some 149) ∧ M.2.2.2 148 2 = some 150)
theorem z_mI {M : gM} {i k : Nat} {v : Int32} (h : z_L M) : z_L (mI M i k v) := h
/-- bytes -/
def z_B (T : gM) : Prop := (∀ q, -128 ≤ (n_b T q).toInt ∧ (n_b T q).toInt ≤ 127) ∧ n_s T ≤ 400
def z_T (T M : gM) : Prop := (z_L M ∧ z_B T) ∧ M.2.1 132 = n_b T ∧ (M.2.1 131 6).toInt = (n_s T : Int)
/-- what the class sees at a place: END behind the last byte -/
def n_ca (T : gM) (q : Nat) : Int32 := if q < n_s T then n_b T q &&& 255 else 256
theorem C_byteAt {T M : gM} {l : Int32} {q : Nat} (Z : z_T T M) (h : l.toInt = (q : Int)) : F_X9_byteAt (some 131) l M = some (n_ca T q) := by
  obtain ⟨⟨⟨⟨⟨⟨k1, k2⟩, _⟩, _⟩, ⟨r0, _⟩, _⟩, B⟩, eb, es⟩ := Z
  have z0 : (0 : Int32).toInt = 0 := rfl
  have z4 : (400 : Int32).toInt = 400 := rfl
  delta F_X9_byteAt F_X9_byteAt_b0 F_X9_byteAt_b32
  unfold n_ca
  rw [if_neg (fun c => by have := i_lt c; omega), t_gI k1, Option.bind_some]
  by_cases c : M.2.1 131 6 ≤ l
  · have := i_le c
    rw [if_pos c, if_neg (by omega)]
  · have hc := i_nle c
    rw [if_neg c, if_neg (fun c2 => by have := i_le c2; have := B.2; omega), t_gR k1 r0.1, Option.bind_some, t_aI k2 (by omega) (by have := B.2; omega), Option.bind_some, i_cl h, if_pos (by omega), eb]
theorem i_and255a : ∀ i : Fin 256, ((Int32.ofInt ((i.val : Int) - 128)) &&& 255).toInt = (if 128 ≤ i.val then (i.val : Int) - 128 else (i.val : Int) + 128) := by decide +kernel
theorem i_and255 {x : Int32} (h1 : -128 ≤ x.toInt) (h2 : x.toInt ≤ 127) : (x &&& 255).toInt = (if 0 ≤ x.toInt then x.toInt else x.toInt + 256) := by
  have h := i_and255a ⟨(x.toInt + 128).toNat, by omega⟩
  have e : ((((x.toInt + 128).toNat : Nat) : Int) - 128) = x.toInt := by omega
  simp only [e, Int32.ofInt_toInt] at h
  rw [h]
  by_cases c : 0 ≤ x.toInt
  · rw [if_pos c, if_pos (by omega)]
  · rw [if_neg c, if_neg (by omega)]
    omega
theorem n_ca_r {T : gM} {q : Nat} (B : z_B T) (h : q < n_s T) : (n_ca T q).toInt = (if 0 ≤ (n_b T q).toInt then (n_b T q).toInt else (n_b T q).toInt + 256) := by
  unfold n_ca
  rw [if_pos h]
  exact i_and255 (B.1 q).1 (B.1 q).2
theorem n_ca_end {T : gM} {q : Nat} (h : n_s T ≤ q) : n_ca T q = 256 := by
  unfold n_ca
  rw [if_neg (by omega)]
theorem C_isLetter {v : Int32} {M : gM} : F_X9_isLetter v M = some (if 97 ≤ v.toInt ∧ v.toInt ≤ 122 then 1 else 0) := by
  delta F_X9_isLetter F_X9_isLetter_b0 F_X9_isLetter_b16
  have z1 : (97 : Int32).toInt = 97 := rfl
  have z2 : (122 : Int32).toInt = 122 := rfl
  by_cases c : v < 97
  · have := i_lt c
    rw [if_pos c, if_neg (by omega)]
  · have := i_nlt c
    rw [if_neg c]
    by_cases c2 : (122 : Int32) < v
    · have := i_lt c2
      rw [if_pos c2, if_neg (by omega)]
    · have := i_nlt c2
      rw [if_neg c2, if_pos (by omega)]
theorem C_isDigit {v : Int32} {M : gM} : F_X9_isDigit v M = some (if 48 ≤ v.toInt ∧ v.toInt ≤ 57 then 1 else 0) := by
  delta F_X9_isDigit F_X9_isDigit_b0 F_X9_isDigit_b16
  have z1 : (48 : Int32).toInt = 48 := rfl
  have z2 : (57 : Int32).toInt = 57 := rfl
  by_cases c : v < 48
  · have := i_lt c
    rw [if_pos c, if_neg (by omega)]
  · have := i_nlt c
    rw [if_neg c]
    by_cases c2 : (57 : Int32) < v
    · have := i_lt c2
      rw [if_pos c2, if_neg (by omega)]
    · have := i_nlt c2
      rw [if_neg c2, if_pos (by omega)]
theorem n_ca_L {T : gM} {q : Nat} (B : z_B T) : (97 ≤ (n_ca T q).toInt ∧ (n_ca T q).toInt ≤ 122) ↔ n_L T q = true := by
  unfold n_L
  rw [decide_eq_true_iff]
  by_cases h : q < n_s T
  · rw [n_ca_r B h]
    have := B.1 q
    split <;> omega
  · rw [n_ca_end (by omega)]
    exact ⟨fun z => absurd z.2 (by decide), fun z => absurd z.1 h⟩
theorem n_ca_D {T : gM} {q : Nat} (B : z_B T) : (48 ≤ (n_ca T q).toInt ∧ (n_ca T q).toInt ≤ 57) ↔ n_D T q = true := by
  unfold n_D
  rw [decide_eq_true_iff]
  by_cases h : q < n_s T
  · rw [n_ca_r B h]
    have := B.1 q
    split <;> omega
  · rw [n_ca_end (by omega)]
    exact ⟨fun z => absurd z.2 (by decide), fun z => absurd z.1 h⟩
theorem C_isLetterAt {T M : gM} {q : Nat} (B : z_B T) : F_X9_isLetter (n_ca T q) M = some (if n_L T q = true then 1 else 0) := by
  rw [C_isLetter]
  by_cases c : n_L T q = true
  · rw [if_pos c, if_pos ((n_ca_L B).mpr c)]
  · rw [if_neg c, if_neg (fun z => c ((n_ca_L B).mp z))]
theorem C_isDigitAt {T M : gM} {q : Nat} (B : z_B T) : F_X9_isDigit (n_ca T q) M = some (if n_D T q = true then 1 else 0) := by
  rw [C_isDigit]
  by_cases c : n_D T q = true
  · rw [if_pos c, if_pos ((n_ca_D B).mpr c)]
  · rw [if_neg c, if_neg (fun z => c ((n_ca_D B).mp z))]
/-- where a run ends, of letters or of digits -/
def n_re (T : gM) (b : Bool) (p : Nat) : Nat := if b = true then n_le T p else n_de T p
def n_rp (T : gM) (b : Bool) (p : Nat) : Bool := if b = true then n_L T p else n_D T p
theorem n_re_step {T : gM} {b : Bool} {p : Nat} (h : n_rp T b p = true) : n_re T b p = n_re T b (p + 1) := by
  cases b
  · exact n_de_step h
  · exact n_le_step h
theorem n_re_stop {T : gM} {b : Bool} {p : Nat} (h : ¬ n_rp T b p = true) : n_re T b p = p := by
  cases b
  · exact n_de_stop h
  · exact n_le_stop h
theorem n_rp_s {T : gM} {b : Bool} {p : Nat} (h : n_rp T b p = true) : p < n_s T := by
  cases b
  · exact (of_decide_eq_true h).1
  · exact (of_decide_eq_true h).1
theorem C_endOfRun_L13 {T M : gM} (Z : z_T T M) {b : Bool} {l2 : Int32} (hb : l2 = (if b = true then 1 else 0)) : ∀ (n q : Nat) {l3 : Int32}, l3.toInt = (q : Int) → q ≤ n_s T → n_s T - q < n → Ok (F_X9_endOfRun_L13 M n (some 131) l2 l3) (fun v => v.toInt = (n_re T b q : Int)) := by
  intro n
  induction n with
  | zero => intro q l3 h1 h2 h3; omega
  | succ n ih =>
    intro q l3 h1 h2 h3
    show Ok (F_X9_endOfRun_b13 (F_X9_endOfRun_L13 M n) M (some 131) l2 l3) _
    have k1 := Z.1.1.1.1.1.1
    have B := Z.1.2
    have es := Z.2.2
    delta F_X9_endOfRun_b13 F_X9_endOfRun_b50 F_X9_endOfRun_b52
    rw [t_gI k1, Option.bind_some]
    refine Ok_i (fun c => ?_) (fun c => ?_)
    · have := i_le c
      rw [Option.bind_some]
      refine Ok_s ?_
      rw [n_re_stop (fun z => by have := n_rp_s z; omega)]
      omega
    · have hc := i_nle c
      have step : n_rp T b q = true → Ok (F_X9_endOfRun_L13 M n (some 131) l2 (l3 + 1)) (fun v => v.toInt = (n_re T b q : Int)) := by
        intro h
        rw [n_re_step h]
        refine ih (q + 1) ?_ (by omega) (by omega)
        rw [n_inc h1 (by have := B.2; omega), i_ofNat (by have := B.2; omega)]
      have stop : ¬ n_rp T b q = true → Ok (some l3) (fun v => v.toInt = (n_re T b q : Int)) := by
        intro h
        refine Ok_s ?_
        rw [n_re_stop h]
        exact h1
      cases b
      · rw [if_pos (show l2 = 0 from hb), t_gO k1, Option.bind_some, C_byteAt Z h1, Option.bind_some, C_isDigitAt B, Option.bind_some]
        by_cases d : n_D T q = true
        · rw [if_pos d, if_neg (by decide)]
          exact step d
        · rw [if_neg d, if_pos rfl]
          exact stop d
      · rw [if_neg (by rw [hb]; decide), t_gO k1, Option.bind_some, C_byteAt Z h1, Option.bind_some, C_isLetterAt B, Option.bind_some]
        by_cases d : n_L T q = true
        · rw [if_pos d, if_neg (by decide)]
          exact step d
        · rw [if_neg d, if_pos rfl]
          exact stop d
theorem C_endOfRun {T M : gM} {l : Int32} {p : Nat} (Z : z_T T M) (h : l.toInt = (p : Int)) (b : Bool) (hp : n_rp T b p = true) : Ok (F_X9_endOfRun (some 131) l M) (fun v => v.toInt = (n_re T b p : Int)) := by
  have k1 := Z.1.1.1.1.1.1
  have B := Z.1.2
  have hs := n_rp_s hp
  delta F_X9_endOfRun F_X9_endOfRun_b0
  rw [t_gO k1, Option.bind_some, C_byteAt Z h, Option.bind_some, C_isLetterAt B, Option.bind_some, n_re_step hp]
  refine C_endOfRun_L13 Z ?_ _ (p + 1) ?_ (by omega) (n_fu (by have := B.2; omega))
  · cases b
    · have hp' : n_D T p = true := hp
      rw [if_neg (fun z => by have := n_LD z; rw [this] at hp'; cases hp')]
      rfl
    · rw [if_pos (show n_L T p = true from hp)]
      rfl
  · show (l + (1 : Int32)).toInt = _
    rw [n_inc h (by have := B.2; omega), i_ofNat (by have := B.2; omega)]
/-- the value of a NUMBER, too much if it has more than five digits -/
def k_val (T : gM) (p : Nat) : Int32 := if n_de T p ≤ p + 5 then n_v T p else 1000000
theorem C_valueOf_L15 {T M : gM} (Z : z_T T M) {p : Nat} {l2 : Int32} (h2 : l2.toInt = (n_de T p : Int)) (hd : n_de T p ≤ p + 5) : ∀ (n k : Nat) {l3 l4 : Int32}, l4.toInt = ((p + k : Nat) : Int) → p + k ≤ n_de T p → l3 = n_dv (n_b T) p k → n_de T p - (p + k) < n → F_X9_valueOf_L15 M n (some 131) l2 l3 l4 = some (n_v T p) := by
  intro n
  induction n with
  | zero => intro k l3 l4 h1 h3 h4 h5; omega
  | succ n ih =>
    intro k l3 l4 h1 h3 h4 h5
    show F_X9_valueOf_b15 (F_X9_valueOf_L15 M n) M (some 131) l2 l3 l4 = _
    have k1 := Z.1.1.1.1.1.1
    have B := Z.1.2
    delta F_X9_valueOf_b15
    by_cases c : l2 ≤ l4
    · have := i_le c
      rw [if_pos c, h4]
      unfold n_v
      rw [show min (n_de T p - p) 5 = k by omega]
    · have hc := i_nle c
      have hk : n_D T (p + k) = true := n_run_in _ _ (p + k) (by omega) (show p + k < n_de T p by omega)
      have hs : p + k < n_s T := (of_decide_eq_true hk).1
      have hr := (of_decide_eq_true hk).2
      have eca : n_ca T (p + k) = n_b T (p + k) := Int32.toInt_inj.mp (by rw [n_ca_r B hs, if_pos (by omega)])
      rw [if_neg c, t_gO k1, Option.bind_some, C_byteAt Z h1, Option.bind_some]
      refine ih (k + 1) ?_ (by omega) ?_ (by omega)
      · show (l4 + (1 : Int32)).toInt = _
        rw [n_inc h1 (by have := B.2; omega), i_ofNat (by have := B.2; omega)]
        rfl
      · rw [h4, eca]
        show _ = (((10 : Int32) * n_dv (n_b T) p k) + n_b T (p + k)) - (48 : Int32)
        rw [Int32.mul_comm]
theorem C_valueOf {T M : gM} {l1 l2 : Int32} {p : Nat} (Z : z_T T M) (h1 : l1.toInt = (p : Int)) (h2 : l2.toInt = (n_de T p : Int)) (hp : p ≤ n_s T) : F_X9_valueOf (some 131) l1 l2 M = some (k_val T p) := by
  have B := Z.1.2
  have d := n_de_le hp
  have z5 : (5 : Int32).toInt = 5 := rfl
  have a := i_sub (x := l2) (y := l1) (by have := B.2; omega) (by have := B.2; omega)
  delta F_X9_valueOf F_X9_valueOf_b0
  unfold k_val
  by_cases c : l2 - l1 ≤ 5
  · have := i_le c
    rw [if_pos c, if_pos (by omega)]
    exact C_valueOf_L15 Z h2 (by omega) _ 0 h1 d.1 rfl (n_fu (by have := B.2; omega))
  · have := i_nle c
    rw [if_neg c, if_neg (by omega)]
