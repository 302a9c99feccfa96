/-! determinants of whole numbers, by the first row; how they are taken without rests -/
def dt_z (f : Nat → Int) : Nat → Int
  | 0 => 0
  | n + 1 => dt_z f n + f n
theorem z_un {f : Nat → Int} {n : Nat} : dt_z f (n + 1) = dt_z f n + f n := rfl
theorem z_eq {f g : Nat → Int} : ∀ n, (∀ t, t < n → f t = g t) → dt_z f n = dt_z g n := by
  intro n
  induction n with
  | zero => intro _; rfl
  | succ n ih =>
    intro h
    rw [z_un, z_un, ih (fun t ht => h t (by omega)), h n (by omega)]
theorem z_lin {f g h : Nat → Int} {x y : Int} : ∀ n, (∀ t, t < n → f t = x * g t + y * h t) → dt_z f n = x * dt_z g n + y * dt_z h n := by
  intro n
  induction n with
  | zero =>
    intro _
    show (0 : Int) = x * 0 + y * 0
    rw [Int.mul_zero, Int.mul_zero, Int.add_zero]
  | succ n ih =>
    intro k
    rw [z_un, z_un, z_un, ih (fun t ht => k t (by omega)), k n (by omega), Int.mul_add, Int.mul_add]
    omega
theorem z_0 {f : Nat → Int} : ∀ n, (∀ t, t < n → f t = 0) → dt_z f n = 0 := by
  intro n
  induction n with
  | zero => intro _; rfl
  | succ n ih =>
    intro h
    rw [z_un, ih (fun t ht => h t (by omega)), h n (by omega), Int.add_zero]
theorem z_one {f : Nat → Int} {e : Nat} : ∀ n, (∀ t, t < n → t ≠ e → f t = 0) → e < n → dt_z f n = f e := by
  intro n
  induction n with
  | zero => intro _ h; omega
  | succ n ih =>
    intro h he
    rw [z_un]
    by_cases c : e = n
    · subst c
      rw [z_0 e (fun t ht => h t (by omega) (by omega)), Int.zero_add]
    · rw [ih (fun t ht tn => h t (by omega) tn) (by omega), h n (by omega) (fun z => c z.symm), Int.add_zero]
theorem z_two {f : Nat → Int} {b e : Nat} (hbe : b < e) : ∀ n, (∀ t, t < n → t ≠ b → t ≠ e → f t = 0) → e < n → dt_z f n = f b + f e := by
  intro n
  induction n with
  | zero => intro _ h; omega
  | succ n ih =>
    intro h he
    rw [z_un]
    by_cases c : e = n
    · subst c
      rw [z_one (e := b) e (fun t ht tb => h t (by omega) tb (by omega)) hbe]
    · rw [ih (fun t ht t1 t2 => h t (by omega) t1 t2) (by omega), h n (by omega) (by omega) (fun z => c z.symm), Int.add_zero]
theorem z_sh {f : Nat → Int} : ∀ n, dt_z f (n + 1) = f 0 + dt_z (fun j => f (j + 1)) n := by
  intro n
  induction n with
  | zero => show 0 + f 0 = f 0 + 0; omega
  | succ n ih => rw [z_un, ih, z_un, Int.add_assoc]
theorem z_le {f g : Nat → Int} : ∀ n, (∀ t, t < n → f t ≤ g t) → dt_z f n ≤ dt_z g n := by
  intro n
  induction n with
  | zero => intro _; exact Int.le_refl 0
  | succ n ih =>
    intro h
    have a := ih (fun t ht => h t (by omega))
    have b := h n (by omega)
    rw [z_un, z_un]
    omega
theorem z_dec {f : Nat → Int} {K : Nat} : ∀ n, K ≤ n → (∀ t, K ≤ t → t < n → f t ≤ 0) → dt_z f n ≤ dt_z f K := by
  intro n
  induction n with
  | zero => intro h _; rw [show K = 0 by omega]; exact Int.le_refl _
  | succ n ih =>
    intro hk h
    by_cases c : K = n + 1
    · rw [c]; exact Int.le_refl _
    · have a := ih (by omega) (fun t h1 h2 => h t h1 (by omega))
      have b := h n (by omega) (by omega)
      rw [z_un]
      omega
def dt_s (A : Nat → Nat → Int) : Nat → Nat → Int := fun i j => A (i + 1) (j + 1)
def dt_r (A : Nat → Nat → Int) (c : Nat) (v : Nat → Int) : Nat → Nat → Int := fun i j => if j = c then v i else A i j
def dt_o (A : Nat → Nat → Int) : Nat → Int := fun i => A (i + 1) 0
def dt : Nat → (Nat → Nat → Int) → Int
  | 0, _ => 1
  | n + 1, A => A 0 0 * dt n (dt_s A) - dt_z (fun t => A 0 (t + 1) * dt n (dt_r (dt_s A) t (dt_o A))) n
theorem dt_un {n : Nat} {A : Nat → Nat → Int} : dt (n + 1) A = A 0 0 * dt n (dt_s A) - dt_z (fun t => A 0 (t + 1) * dt n (dt_r (dt_s A) t (dt_o A))) n := rfl
theorem dt_c : ∀ (n : Nat) {A B : Nat → Nat → Int}, (∀ i j, i < n → j < n → A i j = B i j) → dt n A = dt n B := by
  intro n
  induction n with
  | zero => intro A B _; rfl
  | succ n ih =>
    intro A B h
    have e1 : dt n (dt_s A) = dt n (dt_s B) := ih (fun i j hi hj => h (i + 1) (j + 1) (by omega) (by omega))
    rw [dt_un, dt_un, h 0 0 (by omega) (by omega), e1]
    refine congrArg (fun z => B 0 0 * dt n (dt_s B) - z) (z_eq n (fun t ht => ?_))
    rw [h 0 (t + 1) (by omega) (by omega)]
    refine congrArg (fun z => B 0 (t + 1) * z) (ih (fun i j hi hj => ?_))
    show (if j = t then A (i + 1) 0 else A (i + 1) (j + 1)) = if j = t then B (i + 1) 0 else B (i + 1) (j + 1)
    rw [h (i + 1) 0 (by omega) (by omega), h (i + 1) (j + 1) (by omega) (by omega)]
theorem dt_rr {A : Nat → Nat → Int} {c : Nat} {u v : Nat → Int} : dt_r (dt_r A c u) c v = dt_r A c v := by
  funext i j
  show (if j = c then v i else if j = c then u i else A i j) = if j = c then v i else A i j
  by_cases h : j = c
  · rw [if_pos h, if_pos h]
  · rw [if_neg h, if_neg h, if_neg h]
theorem dt_rc {A : Nat → Nat → Int} {c t : Nat} {u v : Nat → Int} (n : c ≠ t) : dt_r (dt_r A c u) t v = dt_r (dt_r A t v) c u := by
  funext i j
  show (if j = t then v i else if j = c then u i else A i j) = if j = c then u i else if j = t then v i else A i j
  by_cases h : j = t
  · rw [if_pos h, if_neg (by omega), if_pos h]
  · rw [if_neg h, if_neg h]
theorem dt_rs {A : Nat → Nat → Int} {c : Nat} {v : Nat → Int} (h : ∀ i, A i c = v i) : dt_r A c v = A := by
  funext i j
  show (if j = c then v i else A i j) = A i j
  by_cases k : j = c
  · rw [if_pos k, k, h i]
  · rw [if_neg k]
theorem dt_r1 {A : Nat → Nat → Int} {c i : Nat} {v : Nat → Int} : dt_r A c v i c = v i := if_pos rfl
theorem dt_r2 {A : Nat → Nat → Int} {c i j : Nat} {v : Nat → Int} (h : j ≠ c) : dt_r A c v i j = A i j := if_neg h
theorem dt_s0 {A : Nat → Nat → Int} {w : Nat → Int} : dt_s (dt_r A 0 w) = dt_s A := by
  funext i j
  exact dt_r2 (Nat.succ_ne_zero j)
theorem dt_ss {A : Nat → Nat → Int} {c : Nat} {w : Nat → Int} : dt_s (dt_r A (c + 1) w) = dt_r (dt_s A) c (fun i => w (i + 1)) := by
  funext i j
  show (if j + 1 = c + 1 then w (i + 1) else A (i + 1) (j + 1)) = if j = c then w (i + 1) else A (i + 1) (j + 1)
  by_cases h : j = c
  · rw [if_pos h, if_pos (by omega)]
  · rw [if_neg h, if_neg (by omega)]
theorem dt_os {A : Nat → Nat → Int} {c : Nat} {w : Nat → Int} : dt_o (dt_r A (c + 1) w) = dt_o A := by
  funext i
  exact dt_r2 (fun z => by omega)
theorem dt_o0 {A : Nat → Nat → Int} {w : Nat → Int} : dt_o (dt_r A 0 w) = fun i => w (i + 1) := by
  funext i
  exact dt_r1
theorem r_a (a x y p q : Int) : a * (x * p + y * q) = x * (a * p) + y * (a * q) := by
  rw [Int.mul_add, Int.mul_left_comm a x, Int.mul_left_comm a y]
theorem r_b (x y u v S Z W : Int) : (x * u + y * v) * S - (x * Z + y * W) = x * (u * S - Z) + y * (v * S - W) := by
  rw [Int.add_mul, Int.mul_sub, Int.mul_sub, Int.mul_assoc, Int.mul_assoc]
  omega
theorem r_c (a x y p q Z W : Int) : a * (x * p + y * q) - (x * Z + y * W) = x * (a * p - Z) + y * (a * q - W) := by
  rw [r_a, Int.mul_sub, Int.mul_sub]
  omega
/-- a column is one of two added up -/
theorem dt_lin : ∀ (n : Nat) {A : Nat → Nat → Int} {c : Nat} {u v : Nat → Int} {x y : Int}, c < n → dt n (dt_r A c (fun i => x * u i + y * v i)) = x * dt n (dt_r A c u) + y * dt n (dt_r A c v) := by
  intro n
  induction n with
  | zero => intro A c u v x y h; omega
  | succ n ih =>
    intro A c u v x y hc
    cases c with
    | zero =>
      have b : ∀ (w : Nat → Int) (t : Nat), dt_r A 0 w 0 (t + 1) = A 0 (t + 1) := fun w t => dt_r2 (Nat.succ_ne_zero t)
      rw [dt_un, dt_un, dt_un, dt_s0, dt_s0, dt_s0, dt_o0, dt_o0, dt_o0, dt_r1, dt_r1, dt_r1]
      rw [z_lin (x := x) (y := y) (g := fun t => dt_r A 0 u 0 (t + 1) * dt n (dt_r (dt_s A) t (fun i => u (i + 1)))) (h := fun t => dt_r A 0 v 0 (t + 1) * dt n (dt_r (dt_s A) t (fun i => v (i + 1)))) n (fun t ht => by rw [b, b, b, ih ht, r_a])]
      exact r_b _ _ _ _ _ _ _
    | succ c =>
      have a : ∀ w : Nat → Int, dt_r A (c + 1) w 0 0 = A 0 0 := fun w => dt_r2 (fun z => by omega)
      have hc' : c < n := by omega
      rw [dt_un, dt_un, dt_un, dt_ss, dt_ss, dt_ss, dt_os, dt_os, dt_os, a, a, a, ih hc']
      rw [z_lin (x := x) (y := y) (g := fun t => dt_r A (c + 1) u 0 (t + 1) * dt n (dt_r (dt_r (dt_s A) c (fun i => u (i + 1))) t (dt_o A))) (h := fun t => dt_r A (c + 1) v 0 (t + 1) * dt n (dt_r (dt_r (dt_s A) c (fun i => v (i + 1))) t (dt_o A))) n (fun t ht => by
        by_cases k : t = c
        · subst k
          rw [dt_r1, dt_r1, dt_r1, dt_rr, dt_rr, dt_rr, Int.add_mul, Int.mul_assoc, Int.mul_assoc]
        · have nk : t + 1 ≠ c + 1 := by omega
          rw [dt_r2 nk, dt_r2 nk, dt_r2 nk, dt_rc (fun z => k z.symm), dt_rc (fun z => k z.symm), dt_rc (fun z => k z.symm), ih hc', r_a])]
      exact r_c _ _ _ _ _ _ _
theorem dt_two {n : Nat} {A : Nat → Nat → Int} {c : Nat} {u v : Nat → Int} (h : c < n) : dt n (dt_r A c (fun i => u i + v i)) = dt n (dt_r A c u) + dt n (dt_r A c v) := by
  have := dt_lin n (A := A) (u := u) (v := v) (x := 1) (y := 1) h
  rw [Int.one_mul, Int.one_mul] at this
  rw [← this]
  refine congrArg (fun z => dt n (dt_r A c z)) (funext (fun i => ?_))
  rw [Int.one_mul, Int.one_mul]
theorem dt_anti {n : Nat} (alt : ∀ {A : Nat → Nat → Int} {c e : Nat}, c < e → e < n → (∀ i, A i c = A i e) → dt n A = 0) {S : Nat → Nat → Int} {b e : Nat} {u v : Nat → Int} (hb : b < e) (he : e < n) : dt n (dt_r (dt_r S b u) e v) + dt n (dt_r (dt_r S b v) e u) = 0 := by
  have ne : b ≠ e := by omega
  have eq : ∀ w : Nat → Int, dt n (dt_r (dt_r S b w) e w) = 0 := fun w => alt hb he (fun i => by rw [dt_r2 ne, dt_r1, dt_r1])
  have z := eq (fun i => u i + v i)
  have e1 : ∀ w : Nat → Int, dt n (dt_r (dt_r S b (fun i => u i + v i)) e w) = dt n (dt_r (dt_r S b u) e w) + dt n (dt_r (dt_r S b v) e w) := fun w => by
    rw [dt_rc ne, dt_two (by omega), dt_rc (fun z => ne z.symm), dt_rc (u := w) (v := v) (fun z => ne z.symm)]
  rw [dt_two he, e1, e1, eq u, eq v] at z
  omega
/-- two columns alike -/
theorem dt_alt : ∀ (n : Nat) {A : Nat → Nat → Int} {c e : Nat}, c < e → e < n → (∀ i, A i c = A i e) → dt n A = 0 := by
  intro n
  induction n with
  | zero => intro A c e _ h; omega
  | succ n ih =>
    intro A c e hce he h
    obtain ⟨e, rfl⟩ : ∃ q, e = q + 1 := ⟨e - 1, by omega⟩
    cases c with
    | zero =>
      have oe : ∀ i, dt_s A i e = dt_o A i := fun i => (h (i + 1)).symm
      rw [dt_un, z_one (e := e) n (fun t ht te => ?_) (by omega), dt_rs oe, h 0, Int.sub_self]
      have : dt n (dt_r (dt_s A) t (dt_o A)) = 0 := by
        rcases Nat.lt_or_gt_of_ne te with q | q
        · exact ih q (by omega) (fun i => by rw [dt_r1, dt_r2 (by omega), oe i])
        · exact ih q ht (fun i => by rw [dt_r1, dt_r2 (by omega), oe i])
      rw [this, Int.mul_zero]
    | succ b =>
      have hbe : b < e := by omega
      have hs : ∀ i, dt_s A i b = dt_s A i e := fun i => h (i + 1)
      have d0 : dt n (dt_s A) = 0 := ih hbe (by omega) hs
      have zt := z_two (f := fun t => A 0 (t + 1) * dt n (dt_r (dt_s A) t (dt_o A))) hbe n (fun t ht t1 t2 => by
        have : dt n (dt_r (dt_s A) t (dt_o A)) = 0 := ih hbe (by omega) (fun i => by rw [dt_r2 (fun z => t1 z.symm), dt_r2 (fun z => t2 z.symm), hs i])
        rw [this, Int.mul_zero]) (by omega)
      have an := dt_anti (n := n) ih (S := dt_s A) (u := dt_o A) (v := fun i => dt_s A i e) hbe (by omega)
      have x1 : dt_r (dt_r (dt_s A) b (dt_o A)) e (fun i => dt_s A i e) = dt_r (dt_s A) b (dt_o A) := dt_rs (fun i => dt_r2 (by omega))
      have x2 : dt_r (dt_s A) b (fun i => dt_s A i e) = dt_s A := dt_rs hs
      rw [x1, x2] at an
      rw [dt_un, d0, zt, Int.mul_zero, h 0, ← Int.mul_add, an, Int.mul_zero, Int.sub_zero]
/-! the first column goes out -/
def dt_e (A : Nat → Nat → Int) (q : Nat) : Nat → Nat → Int := fun i j => if 1 ≤ j ∧ j ≤ q then A 0 0 * A i j + (-A 0 j) * A i 0 else A i j
theorem dt_e_s {A : Nat → Nat → Int} {q : Nat} : dt_e A (q + 1) = dt_r (dt_e A q) (q + 1) (fun i => A 0 0 * A i (q + 1) + (-A 0 (q + 1)) * A i 0) := by
  funext i j
  show (if 1 ≤ j ∧ j ≤ q + 1 then A 0 0 * A i j + (-A 0 j) * A i 0 else A i j) = if j = q + 1 then A 0 0 * A i (q + 1) + (-A 0 (q + 1)) * A i 0 else if 1 ≤ j ∧ j ≤ q then A 0 0 * A i j + (-A 0 j) * A i 0 else A i j
  by_cases c : j = q + 1
  · subst c
    rw [if_pos (by omega), if_pos rfl]
  · rw [if_neg c]
    by_cases d : 1 ≤ j ∧ j ≤ q
    · rw [if_pos d, if_pos (by omega)]
    · rw [if_neg d, if_neg (by omega)]
theorem dt_e_n {A : Nat → Nat → Int} {q i j : Nat} (h : ¬ (1 ≤ j ∧ j ≤ q)) : dt_e A q i j = A i j := if_neg h
theorem dt_e_y {A : Nat → Nat → Int} {q i j : Nat} (h : 1 ≤ j ∧ j ≤ q) : dt_e A q i j = A 0 0 * A i j + (-A 0 j) * A i 0 := if_pos h
theorem dt_e_d {A : Nat → Nat → Int} {n : Nat} : ∀ q, q ≤ n → dt (n + 1) (dt_e A q) = A 0 0 ^ q * dt (n + 1) A := by
  intro q
  induction q with
  | zero =>
    intro _
    have : dt_e A 0 = A := by
      funext i j
      exact dt_e_n (by omega)
    rw [this, Int.pow_zero, Int.one_mul]
  | succ q ih =>
    intro hq
    have x1 : dt_r (dt_e A q) (q + 1) (fun i => A i (q + 1)) = dt_e A q := dt_rs (fun i => dt_e_n (by omega))
    have x2 : dt (n + 1) (dt_r (dt_e A q) (q + 1) (fun i => A i 0)) = 0 := dt_alt (n + 1) (c := 0) (e := q + 1) (by omega) (by omega) (fun i => by
      rw [dt_r1, dt_r2 (by omega), dt_e_n (by omega)])
    rw [dt_e_s, dt_lin (n + 1) (u := fun i => A i (q + 1)) (v := fun i => A i 0) (by omega), x1, x2, ih (by omega), Int.mul_zero, Int.add_zero, Int.pow_succ, ← Int.mul_assoc, Int.mul_comm (A 0 0)]
def dt_b (A : Nat → Nat → Int) : Nat → Nat → Int := fun i j => A 0 0 * A (i + 1) (j + 1) + (-A 0 (j + 1)) * A (i + 1) 0
theorem dt_elim {n : Nat} {A : Nat → Nat → Int} : A 0 0 * dt n (dt_b A) = A 0 0 ^ n * dt (n + 1) A := by
  rw [← dt_e_d n (Nat.le_refl n), dt_un, dt_e_n (by omega)]
  have z : dt_z (fun t => dt_e A n 0 (t + 1) * dt n (dt_r (dt_s (dt_e A n)) t (dt_o (dt_e A n)))) n = 0 := z_0 n (fun t ht => by
    have : dt_e A n 0 (t + 1) = 0 := by
      rw [dt_e_y (by omega), Int.neg_mul, Int.mul_comm (A 0 (t + 1))]
      omega
    rw [this, Int.zero_mul])
  rw [z, Int.sub_zero]
  exact congrArg (fun x => A 0 0 * x) (dt_c n (fun i j _ hj => (dt_e_y (A := A) (q := n) (i := i + 1) (j := j + 1) (by omega)).symm))
theorem dt_elim' {n : Nat} {A : Nat → Nat → Int} (p : A 0 0 ≠ 0) : dt (n + 1) (dt_b A) = A 0 0 ^ n * dt (n + 2) A := by
  refine Int.eq_of_mul_eq_mul_left p ?_
  rw [dt_elim, Int.pow_succ, Int.mul_comm (A 0 0 ^ n), Int.mul_assoc]
/-! none of these is 0 -/
def dt_Z (N : Nat) (A : Nat → Nat → Int) : Prop := (∀ i j, i < N → j < N → i ≠ j → A i j ≤ 0) ∧ ∀ i, i < N → 0 < dt_z (fun j => A i j) N
theorem Z_p {N : Nat} {A : Nat → Nat → Int} (Z : dt_Z (N + 1) A) : 0 < A 0 0 := by
  have h := Z.2 0 (by omega)
  rw [z_sh] at h
  have l := z_le (f := fun j => A 0 (j + 1)) (g := fun _ => 0) N (fun t ht => Z.1 0 (t + 1) (by omega) (by omega) (by omega))
  rw [z_0 (f := fun _ => 0) N (fun _ _ => rfl)] at l
  omega
theorem Z_b {N : Nat} {A : Nat → Nat → Int} (Z : dt_Z (N + 1) A) : dt_Z N (dt_b A) := by
  have p := Z_p Z
  refine ⟨fun i j hi hj hij => ?_, fun i hi => ?_⟩
  · have a := Z.1 (i + 1) (j + 1) (by omega) (by omega) (by omega)
    have b := Z.1 0 (j + 1) (by omega) (by omega) (by omega)
    have c := Z.1 (i + 1) 0 (by omega) (by omega) (by omega)
    have x := Int.mul_nonneg (a := A 0 0) (b := -A (i + 1) (j + 1)) (by omega) (by omega)
    have y := Int.mul_nonneg (a := -A 0 (j + 1)) (b := -A (i + 1) 0) (by omega) (by omega)
    rw [Int.mul_neg] at x y
    show A 0 0 * A (i + 1) (j + 1) + (-A 0 (j + 1)) * A (i + 1) 0 ≤ 0
    omega
  · have s := Z.2 (i + 1) (by omega)
    have s0 := Z.2 0 (by omega)
    have c := Z.1 (i + 1) 0 (by omega) (by omega) (by omega)
    rw [z_sh] at s s0
    have l := z_lin (f := fun j => dt_b A i j) (g := fun j => A (i + 1) (j + 1)) (h := fun j => A 0 (j + 1)) (x := A 0 0) (y := -A (i + 1) 0) N (fun t _ => by
      show A 0 0 * A (i + 1) (t + 1) + (-A 0 (t + 1)) * A (i + 1) 0 = _
      rw [Int.neg_mul, Int.neg_mul, Int.mul_comm (A 0 (t + 1))])
    rw [l]
    have x := Int.mul_pos p s
    have y := Int.mul_nonneg (a := -A (i + 1) 0) (b := A 0 0 + dt_z (fun j => A 0 (j + 1)) N) (by omega) (by omega)
    rw [Int.mul_add] at x y
    rw [Int.neg_mul, Int.mul_comm (A (i + 1) 0) (A 0 0)] at y
    omega
theorem Z_pos : ∀ (N : Nat) {A : Nat → Nat → Int}, dt_Z N A → 0 < dt N A := by
  intro N
  induction N with
  | zero => intro A _; exact Int.one_pos
  | succ N ih =>
    intro A Z
    have p := Z_p Z
    have b := Int.mul_pos p (ih (Z_b Z))
    rw [dt_elim] at b
    have q := Int.pow_pos (m := N) p
    rcases Int.lt_or_le 0 (dt (N + 1) A) with h | h
    · exact h
    · have := Int.mul_nonneg (a := A 0 0 ^ N) (b := -dt (N + 1) A) (by omega) (by omega)
      rw [Int.mul_neg] at this
      omega
theorem Z_lead {N K : Nat} {A : Nat → Nat → Int} (Z : dt_Z N A) (h : K ≤ N) : dt_Z K A := by
  refine ⟨fun i j hi hj => Z.1 i j (by omega) (by omega), fun i hi => ?_⟩
  have a := Z.2 i (by omega)
  have b := z_dec (f := fun j => A i j) (K := K) N h (fun t h1 h2 => Z.1 i t (by omega) h2 (by omega))
  omega
/-! what stands behind k columns that went out -/
def dt_m (A : Nat → Nat → Int) (k i j : Nat) : Nat → Nat → Int := fun r s => A (if r < k then r else i) (if s < k then s else j)
def dt_R (A : Nat → Nat → Int) (k i j : Nat) : Int := dt (k + 1) (dt_m A k i j)
theorem dt_1 {A : Nat → Nat → Int} : dt 1 A = A 0 0 := by
  show A 0 0 * 1 - 0 = A 0 0
  rw [Int.mul_one, Int.sub_zero]
theorem dt_2 {A : Nat → Nat → Int} : dt 2 A = A 0 0 * A 1 1 - A 0 1 * A 1 0 := by
  rw [dt_un, dt_1]
  show A 0 0 * A 1 1 - (0 + A 0 1 * dt 1 (dt_r (dt_s A) 0 (dt_o A))) = _
  rw [dt_1, dt_r1, Int.zero_add]
  rfl
theorem R_0 {A : Nat → Nat → Int} {i j : Nat} : dt_R A 0 i j = A i j := by
  unfold dt_R
  rw [dt_1]
  show A (if 0 < 0 then 0 else i) (if 0 < 0 then 0 else j) = A i j
  rw [if_neg (Nat.lt_irrefl 0), if_neg (Nat.lt_irrefl 0)]
theorem R_1 {A : Nat → Nat → Int} {i j : Nat} : dt_R A 1 i j = A 0 0 * A i j - A 0 j * A i 0 := by
  unfold dt_R
  rw [dt_2]
  rfl
theorem R_b {A : Nat → Nat → Int} {k i j : Nat} (p : A 0 0 ≠ 0) : dt_R (dt_b A) k i j = A 0 0 ^ k * dt_R A (k + 1) (i + 1) (j + 1) := by
  have sh : ∀ r i : Nat, (if r + 1 < k + 1 then r + 1 else i + 1) = (if r < k then r else i) + 1 := fun r i => by
    by_cases c : r < k
    · rw [if_pos c, if_pos (by omega)]
    · rw [if_neg c, if_neg (by omega)]
  have e : dt_m (dt_b A) k i j = dt_b (dt_m A (k + 1) (i + 1) (j + 1)) := by
    funext r s
    show A 0 0 * A ((if r < k then r else i) + 1) ((if s < k then s else j) + 1) + (-A 0 ((if s < k then s else j) + 1)) * A ((if r < k then r else i) + 1) 0 = A (if 0 < k + 1 then 0 else i + 1) (if 0 < k + 1 then 0 else j + 1) * A (if r + 1 < k + 1 then r + 1 else i + 1) (if s + 1 < k + 1 then s + 1 else j + 1) + (-A (if 0 < k + 1 then 0 else i + 1) (if s + 1 < k + 1 then s + 1 else j + 1)) * A (if r + 1 < k + 1 then r + 1 else i + 1) (if 0 < k + 1 then 0 else j + 1)
    rw [sh, sh, if_pos (show 0 < k + 1 by omega), if_pos (show 0 < k + 1 by omega)]
  unfold dt_R
  have q : dt_m A (k + 1) (i + 1) (j + 1) 0 0 = A 0 0 := by
    show A (if 0 < k + 1 then 0 else i + 1) (if 0 < k + 1 then 0 else j + 1) = A 0 0
    rw [if_pos (by omega), if_pos (by omega)]
  have := dt_elim' (n := k) (A := dt_m A (k + 1) (i + 1) (j + 1)) (by rw [q]; exact p)
  rw [e, this, q]
def dt_q (A : Nat → Nat → Int) : Nat → Int
  | 0 => 1
  | k + 1 => dt_R A k k k
theorem r_d {p P X Q a b c d : Int} (hP : P ≠ 0) (hp : p ≠ 0) (h : (P * p * p * X) * (P * Q) = (P * p * a) * (P * p * b) - (P * p * c) * (P * p * d)) : X * Q = a * b - c * d := by
  have h1 : P * p ≠ 0 := fun z => by
    rcases Int.mul_eq_zero.mp z with y | y
    · exact hP y
    · exact hp y
  refine Int.eq_of_mul_eq_mul_left h1 (Int.eq_of_mul_eq_mul_left h1 ?_)
  have l : P * p * (P * p * (X * Q)) = (P * p * p * X) * (P * Q) := by
    simp only [Int.mul_assoc, Int.mul_comm, Int.mul_left_comm]
  have r : P * p * (P * p * (a * b - c * d)) = (P * p * a) * (P * p * b) - (P * p * c) * (P * p * d) := by
    simp only [Int.mul_sub, Int.mul_assoc, Int.mul_comm, Int.mul_left_comm]
  rw [l, r]
  exact h
theorem R_sy : ∀ (k : Nat) {A : Nat → Nat → Int} {N i j : Nat}, dt_Z N A → k ≤ N → k + 1 ≤ i → k + 1 ≤ j → dt_R A (k + 1) i j * dt_q A k = dt_R A k i j * dt_R A k k k - dt_R A k i k * dt_R A k k j := by
  intro k
  induction k with
  | zero =>
    intro A N i j _ _ _ _
    show dt_R A 1 i j * 1 = _
    rw [R_1, R_0, R_0, R_0, R_0, Int.mul_one, Int.mul_comm (A i j), Int.mul_comm (A i 0)]
  | succ k ih =>
    intro A N i j Z hk hi hj
    obtain ⟨i, rfl⟩ : ∃ q, i = q + 1 := ⟨i - 1, by omega⟩
    obtain ⟨j, rfl⟩ : ∃ q, j = q + 1 := ⟨j - 1, by omega⟩
    obtain ⟨N, rfl⟩ : ∃ q, N = q + 1 := ⟨N - 1, by omega⟩
    have p := Z_p Z
    have p0 : A 0 0 ≠ 0 := by omega
    have h := ih (A := dt_b A) (i := i) (j := j) (Z_b Z) (by omega) (by omega) (by omega)
    rw [R_b p0, R_b p0, R_b p0, R_b p0, R_b p0] at h
    cases k with
    | zero =>
      have e : dt_q (dt_b A) 0 = 1 := rfl
      rw [e, Int.pow_zero, Int.one_mul, Int.one_mul, Int.one_mul, Int.one_mul, Int.mul_one, Int.pow_succ, Int.pow_zero, Int.one_mul] at h
      show dt_R A 2 (i + 1) (j + 1) * dt_R A 0 0 0 = _
      rw [R_0, Int.mul_comm]
      exact h
    | succ k =>
      have e : dt_q (dt_b A) (k + 1) = A 0 0 ^ k * dt_R A (k + 1) (k + 1) (k + 1) := R_b p0
      have pk := Int.pow_pos (m := k) p
      rw [e, Int.pow_succ, Int.pow_succ] at h
      exact r_d (P := A 0 0 ^ k) (by omega) p0 h
/-! how great they are -/
theorem z_abs {f : Nat → Int} : ∀ n, (dt_z f n).natAbs ≤ tw_su (fun t => (f t).natAbs) n := by
  intro n
  induction n with
  | zero => exact Nat.le_refl 0
  | succ n ih =>
    have := Int.natAbs_add_le (dt_z f n) (f n)
    show (dt_z f n + f n).natAbs ≤ tw_su (fun t => (f t).natAbs) n + (f n).natAbs
    omega
theorem su_sh {F : Nat → Nat} : ∀ n, tw_su F (n + 1) = F 0 + tw_su (fun j => F (j + 1)) n := by
  intro n
  induction n with
  | zero => show 0 + F 0 = F 0 + 0; omega
  | succ n ih =>
    show tw_su F (n + 1) + F (n + 1) = F 0 + (tw_su (fun j => F (j + 1)) n + F (n + 1))
    omega
theorem su_mul {F : Nat → Nat} {B : Nat} : ∀ n, tw_su (fun t => F t * B) n = tw_su F n * B := by
  intro n
  induction n with
  | zero => show 0 = 0 * B; rw [Nat.zero_mul]
  | succ n ih =>
    show tw_su (fun t => F t * B) n + F n * B = (tw_su F n + F n) * B
    rw [ih, Nat.add_mul]
theorem su_if {F : Nat → Nat} {a t : Nat} : ∀ n, tw_su (fun j => if j = t then a else F j) n ≤ (if t < n then a else 0) + tw_su F n := by
  intro n
  induction n with
  | zero => exact Nat.zero_le _
  | succ n ih =>
    show tw_su (fun j => if j = t then a else F j) n + (if n = t then a else F n) ≤ _ + (tw_su F n + F n)
    by_cases c : n = t
    · subst c
      rw [if_neg (Nat.lt_irrefl n)] at ih
      rw [if_pos rfl, if_pos (by omega)]
      omega
    · rw [if_neg c]
      by_cases d : t < n
      · rw [if_pos d] at ih
        rw [if_pos (by omega)]
        omega
      · rw [if_neg d] at ih
        rw [if_neg (by omega)]
        omega
theorem su_one {F : Nat → Nat} {k j : Nat} : ∀ m, k ≤ j → j < m → tw_su F k + F j ≤ tw_su F m := by
  intro m
  induction m with
  | zero => intro _ h; omega
  | succ m ih =>
    intro h1 h2
    show tw_su F k + F j ≤ tw_su F m + F m
    by_cases c : j = m
    · subst c
      have : ∀ d, tw_su F k ≤ tw_su F (k + d) := fun d => by
        induction d with
        | zero => exact Nat.le_refl _
        | succ d ih2 => exact Nat.le_trans ih2 (Nat.le_add_right _ _)
      have := this (j - k)
      rw [show k + (j - k) = j by omega] at this
      omega
    · have := ih h1 (by omega)
      omega
theorem dt_bd {K : Nat} : ∀ (n : Nat) {A : Nat → Nat → Int}, (∀ i, i < n → tw_su (fun j => (A i j).natAbs) n ≤ K) → (dt n A).natAbs ≤ K ^ n := by
  intro n
  induction n with
  | zero => intro A _; exact Nat.le_refl 1
  | succ n ih =>
    intro A h
    have row : ∀ i, i < n → (A (i + 1) 0).natAbs + tw_su (fun j => (A (i + 1) (j + 1)).natAbs) n ≤ K := fun i hi => by
      have := h (i + 1) (by omega)
      rw [su_sh] at this
      exact this
    have b1 : (dt n (dt_s A)).natAbs ≤ K ^ n := ih (fun i hi => by
      have := row i hi
      show tw_su (fun j => (A (i + 1) (j + 1)).natAbs) n ≤ K
      omega)
    have b2 : ∀ t, (dt n (dt_r (dt_s A) t (dt_o A))).natAbs ≤ K ^ n := fun t => ih (fun i hi => by
      have r := row i hi
      have s := su_if (F := fun j => (A (i + 1) (j + 1)).natAbs) (a := (A (i + 1) 0).natAbs) (t := t) n
      have e : tw_su (fun j => (dt_r (dt_s A) t (dt_o A) i j).natAbs) n = tw_su (fun j => if j = t then (A (i + 1) 0).natAbs else (A (i + 1) (j + 1)).natAbs) n := tw_su_eq n (fun j _ => by
        show (if j = t then A (i + 1) 0 else A (i + 1) (j + 1)).natAbs = _
        by_cases c : j = t
        · rw [if_pos c, if_pos c]
        · rw [if_neg c, if_neg c])
      rw [e]
      split at s <;> omega)
    have r0 := h 0 (by omega)
    rw [su_sh] at r0
    have c1 := Int.natAbs_sub_le (A 0 0 * dt n (dt_s A)) (dt_z (fun t => A 0 (t + 1) * dt n (dt_r (dt_s A) t (dt_o A))) n)
    have c2 := z_abs (f := fun t => A 0 (t + 1) * dt n (dt_r (dt_s A) t (dt_o A))) n
    have c3 : tw_su (fun t => (A 0 (t + 1) * dt n (dt_r (dt_s A) t (dt_o A))).natAbs) n ≤ tw_su (fun t => (A 0 (t + 1)).natAbs * K ^ n) n := tw_su_le n (fun t _ => by
      rw [Int.natAbs_mul]
      exact Nat.mul_le_mul_left _ (b2 t))
    rw [su_mul] at c3
    rw [Int.natAbs_mul] at c1
    have c4 := Nat.mul_le_mul_left (A 0 0).natAbs b1
    have c5 := Nat.mul_le_mul_right (K ^ n) r0
    rw [Nat.add_mul] at c5
    rw [dt_un, Nat.pow_succ, Nat.mul_comm (K ^ n)]
    omega
theorem R_bd {m K k i j : Nat} {A : Nat → Nat → Int} (h : ∀ r, r < m → tw_su (fun s => (A r s).natAbs) m ≤ K) (hi : i < m) (hj : j < m) (ki : k ≤ i) (kj : k ≤ j) : (dt_R A k i j).natAbs ≤ K ^ (k + 1) := by
  refine dt_bd (k + 1) (fun r hr => ?_)
  have rm : (if r < k then r else i) < m := by split <;> omega
  have x := h _ rm
  have y := su_one (F := fun s => (A (if r < k then r else i) s).natAbs) m kj hj
  have e : tw_su (fun s => (dt_m A k i j r s).natAbs) k = tw_su (fun s => (A (if r < k then r else i) s).natAbs) k := tw_su_eq k (fun s hs => by
    show (A (if r < k then r else i) (if s < k then s else j)).natAbs = _
    rw [if_pos hs])
  have e2 : (dt_m A k i j r k).natAbs = (A (if r < k then r else i) j).natAbs := by
    show (A (if r < k then r else i) (if k < k then k else j)).natAbs = _
    rw [if_neg (Nat.lt_irrefl k)]
  show tw_su (fun s => (dt_m A k i j r s).natAbs) k + (dt_m A k i j r k).natAbs ≤ K
  rw [e, e2]
  omega
/-- the whole, at the end -/
theorem R_d {A : Nat → Nat → Int} {k : Nat} : dt_R A k k k = dt (k + 1) A := by
  refine dt_c (k + 1) (fun i j hi hj => ?_)
  have e : ∀ r, r < k + 1 → (if r < k then r else k) = r := fun r hr => by split <;> omega
  show A (if i < k then i else k) (if j < k then j else k) = A i j
  rw [e i hi, e j hj]
