/-! as many WAYS as the determinant says -/
def ct_E (σ : Nat → Int32) (t h c : Nat) : Bool := tw_wr σ t h && (decide (c < hs_m σ) && ((σ (52 + h)).toBitVec.getLsbD c && s_va σ c t == s_va σ h t))
def ct_e (σ : Nat → Int32) (t h c : Nat) : Int := if ct_E σ t h c = true then 1 else 0
def ct_A (σ : Nat → Int32) (t : Nat) : Nat → Nat → Int := fun i j => if i = j then 1 + dt_z (fun v => ct_e σ t i v) (hs_m σ) else -ct_e σ t i j
theorem ct_E_iff {σ : Nat → Int32} {t h c : Nat} : ct_E σ t h c = true ↔ tw_wr σ t h = true ∧ (c < hs_m σ ∧ ((σ (52 + h)).toBitVec.getLsbD c = true ∧ s_va σ c t = s_va σ h t)) := by
  unfold ct_E
  rw [Bool.and_eq_true, Bool.and_eq_true, decide_eq_true_eq, Bool.and_eq_true, beq_iff_eq]
theorem ct_e_y {σ : Nat → Int32} {t h c : Nat} (k : ct_E σ t h c = true) : ct_e σ t h c = 1 := if_pos k
theorem ct_e_n {σ : Nat → Int32} {t h c : Nat} (k : ¬ ct_E σ t h c = true) : ct_e σ t h c = 0 := if_neg k
theorem ct_E_ir {σ : Nat → Int32} {t h : Nat} (Q : s_Qc σ) (hh : h < hs_m σ) : ¬ ct_E σ t h h = true := fun z => (Q.2 h h hh (ct_E_iff.mp z).2.2.1).1.2 rfl
theorem ct_E_sy {σ : Nat → Int32} {t h c : Nat} (Q : s_Qc σ) (hh : h < hs_m σ) (k : ct_E σ t h c = true) : ct_E σ t c h = true := by
  obtain ⟨w, c1, c2, c3⟩ := ct_E_iff.mp k
  have w' := tw_wr_iff.mp w
  have kn : s_kn σ c t = true := by
    have := w'.1
    unfold s_kn at this ⊢
    rw [c3]
    exact this
  exact ct_E_iff.mpr ⟨tw_wr_iff.mpr ⟨kn, by rw [c3]; exact w'.2⟩, hh, (Q.2 h c hh c2).2, c3.symm⟩
theorem ct_e_r {σ : Nat → Int32} {t h c : Nat} : 0 ≤ ct_e σ t h c ∧ ct_e σ t h c ≤ 1 := by
  unfold ct_e
  split <;> decide
theorem ct_A_ne {σ : Nat → Int32} {t i j : Nat} (h : i ≠ j) : ct_A σ t i j = -ct_e σ t i j := if_neg h
theorem ct_A_eq {σ : Nat → Int32} {t i : Nat} : ct_A σ t i i = 1 + dt_z (fun v => ct_e σ t i v) (hs_m σ) := if_pos rfl
theorem z_add {f g : Nat → Int} (n : Nat) : dt_z (fun t => f t + g t) n = dt_z f n + dt_z g n := by
  have := z_lin (f := fun t => f t + g t) (g := f) (h := g) (x := 1) (y := 1) n (fun t _ => by rw [Int.one_mul, Int.one_mul])
  rw [this, Int.one_mul, Int.one_mul]
theorem z_mul {f : Nat → Int} {x : Int} (n : Nat) : dt_z (fun t => f t * x) n = dt_z f n * x := by
  have := z_lin (f := fun t => f t * x) (g := f) (h := fun _ => 0) (x := x) (y := 0) n (fun t _ => by rw [Int.mul_zero, Int.add_zero, Int.mul_comm])
  rw [this, Int.zero_mul, Int.add_zero, Int.mul_comm]
theorem z_fub {a : Nat → Nat → Int} {m : Nat} : ∀ k, dt_z (fun t => dt_z (fun v => a t v) m) k = dt_z (fun v => dt_z (fun t => a t v) k) m := by
  intro k
  induction k with
  | zero => exact (z_0 m (fun v _ => rfl)).symm
  | succ k ih =>
    rw [z_un, ih, ← z_add]
    rfl
theorem z_pick {f : Nat → Int} {e : Nat} : ∀ n, e < n → dt_z f n = f e + dt_z (fun t => if t = e then 0 else f t) n := by
  intro n
  induction n with
  | zero => intro h; omega
  | succ n ih =>
    intro h
    rw [z_un, z_un]
    by_cases c : e = n
    · subst c
      rw [if_pos rfl, z_eq (f := fun t => if t = e then 0 else f t) (g := f) e (fun t ht => if_neg (by omega))]
      omega
    · rw [if_neg (fun z => c z.symm), ih (by omega)]
      omega
theorem z_cast {F : Nat → Nat} : ∀ n, ((tw_su F n : Nat) : Int) = dt_z (fun c => ((F c : Nat) : Int)) n := by
  intro n
  induction n with
  | zero => rfl
  | succ n ih =>
    rw [z_un, ← ih]
    show ((tw_su F n + F n : Nat) : Int) = _
    omega
/-! where one comes from a place -/
def ct_wk (f : Nat → Nat) (h : Nat) : Nat → Nat → Nat
  | 0, v => v
  | n + 1, v => if v < h then ct_wk f h n (f v) else v
theorem wk_hi {f : Nat → Nat} {h n v : Nat} (c : h ≤ v) : ct_wk f h n v = v := by
  cases n with
  | zero => rfl
  | succ n => exact if_neg (by omega)
theorem wk_lo {f : Nat → Nat} {h n v : Nat} (c : v < h) : ct_wk f h (n + 1) v = ct_wk f h n (f v) := if_pos c
theorem wk_more {f : Nat → Nat} {h : Nat} : ∀ (n v : Nat), h ≤ ct_wk f h n v → ∀ d, ct_wk f h (n + d) v = ct_wk f h n v := by
  intro n
  induction n with
  | zero =>
    intro v c d
    have c' : h ≤ v := c
    rw [wk_hi c', wk_hi c']
  | succ n ih =>
    intro v c d
    by_cases q : v < h
    · rw [wk_lo q] at c ⊢
      rw [show n + 1 + d = (n + d) + 1 by omega, wk_lo q]
      exact ih _ c d
    · rw [wk_hi (by omega), wk_hi (by omega)]
theorem wk_rn {f f' : Nat → Nat} {h : Nat} (e : ∀ j, j < h → f' j = f j) : ∀ (n v : Nat), h ≤ ct_wk f h n v → tw_rn f' h (n + 1) v = decide (ct_wk f h n v = h) := by
  intro n
  induction n with
  | zero =>
    intro v c
    have c' : h ≤ v := c
    show (if h < v then false else if v = h then true else tw_rn f' h 0 (f' v)) = decide (v = h)
    by_cases q : h < v
    · rw [if_pos q, decide_eq_false (by omega)]
    · rw [if_neg q, if_pos (by omega), decide_eq_true (by omega)]
  | succ n ih =>
    intro v c
    show (if h < v then false else if v = h then true else tw_rn f' h (n + 1) (f' v)) = _
    by_cases q : v < h
    · rw [wk_lo q] at c ⊢
      rw [if_neg (by omega), if_neg (by omega), e v q]
      exact ih _ c
    · rw [wk_hi (by omega)]
      by_cases q2 : h < v
      · rw [if_pos q2, decide_eq_false (by omega)]
      · rw [if_neg q2, if_pos (by omega), decide_eq_true (by omega)]
theorem wk_up {f f' : Nat → Nat} {h : Nat} (e : ∀ j, j < h → f' j = f j) : ∀ (n v : Nat), ∃ a, a ≤ n ∧ ∀ d, ct_wk f' (h + 1) (a + d) v = ct_wk f' (h + 1) d (ct_wk f h n v) := by
  intro n
  induction n with
  | zero => intro v; exact ⟨0, Nat.le_refl 0, fun d => by rw [Nat.zero_add]; rfl⟩
  | succ n ih =>
    intro v
    by_cases q : v < h
    · obtain ⟨a, a1, a2⟩ := ih (f v)
      refine ⟨a + 1, by omega, fun d => ?_⟩
      rw [wk_lo q, show a + 1 + d = (a + d) + 1 by omega, wk_lo (by omega), e v q]
      exact a2 d
    · refine ⟨0, Nat.zero_le _, fun d => ?_⟩
      rw [Nat.zero_add, wk_hi (f := f) (n := n + 1) (by omega)]
def ct_cs (ρ : Nat → Nat) (h x : Nat) : Nat := tw_su (fun u => if ρ u = x then 1 else 0) h
def ct_I (m : Nat) (f ρ : Nat → Nat) (h : Nat) : Prop := ((∀ v, h ≤ v → ρ v = v) ∧ ∀ v, h ≤ ρ v) ∧ (∀ v, v < m → ρ v < m ∨ 7 ≤ ρ v) ∧ ∀ v, ct_wk f h (ct_cs ρ h (ρ v)) v = ρ v
def ct_n (ρ : Nat → Nat) (h c : Nat) : Nat → Nat := fun v => if ρ v = h then ρ c else ρ v
theorem ct_I_0 {m : Nat} {f : Nat → Nat} : ct_I m f (fun v => v) 0 := ⟨⟨fun _ _ => rfl, fun _ => Nat.zero_le _⟩, fun v hv => Or.inl hv, fun v => wk_hi (Nat.zero_le _)⟩
theorem cs_le {ρ : Nat → Nat} {h x : Nat} : ct_cs ρ h x ≤ h := by
  have := tw_su_k (F := fun u => if ρ u = x then 1 else 0) (B := 1) h (fun i _ => by split <;> omega)
  unfold ct_cs
  omega
theorem ct_I_s {m : Nat} {f ρ : Nat → Nat} {h c : Nat} (I : ct_I m f ρ h) (hm : h < m) (m7 : m ≤ 7) (hc : ρ c ≠ h) (cm : c < m ∨ 7 ≤ c) : ct_I m (tw_up f h c) (ct_n ρ h c) (h + 1) := by
  obtain ⟨⟨i1, i2⟩, i3, i4⟩ := I
  have ny : ∀ v, ρ v = h → ct_n ρ h c v = ρ c := fun v k => if_pos k
  have nn : ∀ v, ρ v ≠ h → ct_n ρ h c v = ρ v := fun v k => if_neg k
  have hh : ρ h = h := i1 h (Nat.le_refl h)
  have c3 : ρ c < m ∨ 7 ≤ ρ c := by
    rcases cm with k | k
    · exact i3 c k
    · rw [i1 c (by omega)]
      exact Or.inr k
  have ag : ∀ j, j < h → tw_up f h c j = f j := fun j hj => tw_up_n (by omega)
  refine ⟨⟨fun v hv => ?_, fun v => ?_⟩, fun v hv => ?_, fun v => ?_⟩
  · have := i1 v (by omega)
    rw [nn v (by omega)]
    exact this
  · by_cases k : ρ v = h
    · rw [ny v k]
      have := i2 c
      omega
    · rw [nn v k]
      have := i2 v
      omega
  · by_cases k : ρ v = h
    · rw [ny v k]
      exact c3
    · rw [nn v k]
      exact i3 v hv
  · by_cases k : ρ v = h
    · rw [ny v k]
      obtain ⟨a, a1, a2⟩ := wk_up ag (ct_cs ρ h (ρ v)) v
      obtain ⟨b, b1, b2⟩ := wk_up ag (ct_cs ρ h (ρ c)) c
      rw [i4 v, k] at a2
      rw [i4 c] at b2
      rw [k] at a1
      have sz : ct_cs ρ h h + ct_cs ρ h (ρ c) + 1 ≤ ct_cs (ct_n ρ h c) (h + 1) (ρ c) := by
        have s := tw_su_al (F := fun u => if ρ u = h then 1 else 0) (G := fun u => if ρ u = ρ c then 1 else 0) (H := fun u => if ct_n ρ h c u = ρ c then 1 else 0) h (fun u _ => by
          by_cases q : ρ u = h
          · rw [if_pos q, if_neg (fun z => hc (by rw [← z]; exact q)), if_pos (ny u q)]
            exact Nat.le_refl _
          · rw [if_neg q, nn u q, Nat.zero_add]
            exact Nat.le_refl _)
        show _ ≤ tw_su (fun u => if ct_n ρ h c u = ρ c then 1 else 0) h + (if ct_n ρ h c h = ρ c then 1 else 0)
        rw [if_pos (ny h hh)]
        unfold ct_cs
        omega
      obtain ⟨d, hd⟩ : ∃ d, ct_cs (ct_n ρ h c) (h + 1) (ρ c) = a + ((b + d) + 1) := ⟨ct_cs (ct_n ρ h c) (h + 1) (ρ c) - a - b - 1, by omega⟩
      rw [hd, a2, wk_lo (by omega), tw_up_e, b2]
      exact wk_hi (by have := i2 c; omega)
    · rw [nn v k]
      obtain ⟨a, a1, a2⟩ := wk_up ag (ct_cs ρ h (ρ v)) v
      rw [i4 v] at a2
      have sz : ct_cs ρ h (ρ v) ≤ ct_cs (ct_n ρ h c) (h + 1) (ρ v) := by
        have s := tw_su_le (F := fun u => if ρ u = ρ v then 1 else 0) (G := fun u => if ct_n ρ h c u = ρ v then 1 else 0) h (fun u _ => by
          by_cases q : ρ u = ρ v
          · rw [if_pos q, if_pos (by rw [nn u (by omega)]; exact q)]
            exact Nat.le_refl _
          · rw [if_neg q]
            exact Nat.zero_le _)
        exact Nat.le_trans s (Nat.le_add_right _ _)
      obtain ⟨d, hd⟩ : ∃ d, ct_cs (ct_n ρ h c) (h + 1) (ρ v) = a + d := ⟨ct_cs (ct_n ρ h c) (h + 1) (ρ v) - a, by omega⟩
      rw [hd, a2]
      exact wk_hi (by have := i2 v; omega)
theorem ct_I_r {m : Nat} {f ρ : Nat → Nat} {h c : Nat} (I : ct_I m f ρ h) (h6 : h ≤ 6) : tw_rn (tw_up f h c) h 7 c = decide (ρ c = h) := by
  have k := I.2.2 c
  have l := cs_le (ρ := ρ) (h := h) (x := ρ c)
  have w := wk_more (f := f) (h := h) (ct_cs ρ h (ρ c)) c (by rw [k]; exact I.1.2 c) (6 - ct_cs ρ h (ρ c))
  rw [show ct_cs ρ h (ρ c) + (6 - ct_cs ρ h (ρ c)) = 6 by omega, k] at w
  rw [wk_rn (f := f) (f' := tw_up f h c) (fun j hj => tw_up_n (by omega)) 6 c (by rw [w]; exact I.1.2 c), w]
/-! the columns put together -/
def ct_B (A : Nat → Nat → Int) (m : Nat) (ρ : Nat → Nat) (h : Nat) : Nat → Nat → Int := fun i j => dt_z (fun v => if ρ v = h + j then A (h + i) v else 0) m
theorem ct_B_s {A : Nat → Nat → Int} {m : Nat} {ρ : Nat → Nat} {h c i j : Nat} (hc : ρ c ≠ h) : ct_B A m (ct_n ρ h c) (h + 1) i j = dt_s (ct_B A m ρ h) i j + (if ρ c = h + (j + 1) then dt_o (ct_B A m ρ h) i else 0) := by
  show dt_z (fun v => if ct_n ρ h c v = h + 1 + j then A (h + 1 + i) v else 0) m = dt_z (fun v => if ρ v = h + (j + 1) then A (h + (i + 1)) v else 0) m + (if ρ c = h + (j + 1) then dt_z (fun v => if ρ v = h + 0 then A (h + (i + 1)) v else 0) m else 0)
  have e1 : h + 1 + j = h + (j + 1) := by omega
  have e2 : h + 1 + i = h + (i + 1) := by omega
  rw [e1, e2]
  have t : ∀ v, (if ct_n ρ h c v = h + (j + 1) then A (h + (i + 1)) v else 0) = (if ρ v = h + (j + 1) then A (h + (i + 1)) v else 0) + (if ρ v = h + 0 then (if ρ c = h + (j + 1) then A (h + (i + 1)) v else 0) else 0) := fun v => by
    by_cases k : ρ v = h
    · have : ct_n ρ h c v = ρ c := if_pos k
      rw [this, if_neg (c := ρ v = h + (j + 1)) (by omega), if_pos (c := ρ v = h + 0) (by omega), Int.zero_add]
    · have : ct_n ρ h c v = ρ v := if_neg k
      rw [this, if_neg (c := ρ v = h + 0) (by omega), Int.add_zero]
  rw [z_eq m (fun v _ => t v), z_add]
  congr 1
  by_cases k : ρ c = h + (j + 1)
  · rw [if_pos k]
    exact z_eq m (fun v _ => by rw [if_pos k])
  · rw [if_neg k]
    exact z_0 m (fun v _ => by rw [if_neg k]; split <;> rfl)
def ct_D (B : Nat → Nat → Int) (k t : Nat) : Int := dt k (dt_r (dt_s B) t (dt_o B))
def ct_Z (B : Nat → Nat → Int) (k h : Nat) (ρ : Nat → Nat) (v : Nat) : Int := dt_z (fun t => if ρ v = h + (t + 1) then ct_D B k t else 0) k
theorem ct_un {k : Nat} {B : Nat → Nat → Int} : dt (k + 1) B = B 0 0 * dt k (dt_s B) - dt_z (fun t => B 0 (t + 1) * ct_D B k t) k := rfl
theorem ct_Z_0 {B : Nat → Nat → Int} {k h v : Nat} {ρ : Nat → Nat} (q : ∀ t, t < k → ρ v ≠ h + (t + 1)) : ct_Z B k h ρ v = 0 := z_0 k (fun t ht => if_neg (q t ht))
theorem ct_B_d {A : Nat → Nat → Int} {m k : Nat} {ρ : Nat → Nat} {h c : Nat} (hk : h + (k + 1) = m) (m7 : m ≤ 7) (hc : ρ c ≠ h) (c1 : h ≤ ρ c) (c3 : ρ c < m ∨ 7 ≤ ρ c) : dt k (ct_B A m (ct_n ρ h c) (h + 1)) = dt k (dt_s (ct_B A m ρ h)) + ct_Z (ct_B A m ρ h) k h ρ c := by
  obtain ⟨B, eB⟩ : ∃ B, B = ct_B A m ρ h := ⟨_, rfl⟩
  by_cases q : ρ c < m
  · obtain ⟨t0, ht0⟩ : ∃ t0, ρ c = h + (t0 + 1) := ⟨ρ c - h - 1, by omega⟩
    have e : dt k (ct_B A m (ct_n ρ h c) (h + 1)) = dt k (dt_r (dt_s B) t0 (fun i => dt_s B i t0 + dt_o B i)) := dt_c k (fun i j _ _ => by
      rw [ct_B_s hc, ← eB]
      by_cases jt : j = t0
      · rw [jt, if_pos ht0, dt_r1]
      · rw [if_neg (by omega), dt_r2 jt, Int.add_zero])
    have e1 := dt_two (n := k) (A := dt_s B) (c := t0) (u := fun i => dt_s B i t0) (v := dt_o B) (by omega)
    have e2 : dt_r (dt_s B) t0 (fun i => dt_s B i t0) = dt_s B := dt_rs (fun _ => rfl)
    have e3 : ct_Z B k h ρ c = ct_D B k t0 := by
      have := z_one (f := fun t => if ρ c = h + (t + 1) then ct_D B k t else 0) (e := t0) k (fun t _ tn => if_neg (by omega)) (by omega)
      rw [if_pos ht0] at this
      exact this
    rw [e2] at e1
    rw [← eB, e, e1, e3]
    rfl
  · have e : dt k (ct_B A m (ct_n ρ h c) (h + 1)) = dt k (dt_s B) := dt_c k (fun i j _ hj => by
      rw [ct_B_s hc, ← eB, if_neg (by omega), Int.add_zero])
    rw [← eB, e, ct_Z_0 (fun t ht => by omega), Int.add_zero]
theorem ct_main {σ : Nat → Int32} {t : Nat} (V : s_V σ) (Q : s_Qc σ) : ∀ (k h : Nat) (f ρ : Nat → Nat), h + k = hs_m σ → ct_I (hs_m σ) f ρ h → ((tw_sm σ t (fun _ => 1) k h f : Nat) : Int) = dt k (ct_B (ct_A σ t) (hs_m σ) ρ h) := by
  have nv := s_Vn V
  intro k
  induction k with
  | zero => intro h f ρ _ _; rfl
  | succ k ih =>
    intro h f ρ hk I
    have hm : h < hs_m σ := by omega
    have hh : ρ h = h := I.1.1 h (Nat.le_refl h)
    have r7 : ρ 7 = 7 := I.1.1 7 (by omega)
    have r8 : ρ 8 = 8 := I.1.1 8 (by omega)
    obtain ⟨B, eB⟩ : ∃ B, B = ct_B (ct_A σ t) (hs_m σ) ρ h := ⟨_, rfl⟩
    obtain ⟨D, eD⟩ : ∃ D, D = dt k (dt_s B) := ⟨_, rfl⟩
    have Zh : ∀ v, ρ v = h → ct_Z B k h ρ v = 0 := fun v q => ct_Z_0 (fun u _ => by omega)
    -- what a choice comes to
    obtain ⟨G, hG⟩ : ∃ G : Nat → Int, ∀ c, G c = (((if tw_ok σ t h c = true ∧ tw_rn (tw_up f h c) h 7 c = false then tw_sm σ t (fun _ => 1) k (h + 1) (tw_up f h c) else 0) : Nat) : Int) := ⟨_, fun _ => rfl⟩
    have Gn : ∀ c, ¬ tw_ok σ t h c = true → G c = 0 := fun c q => by
      rw [hG c, if_neg (fun z => q z.1)]
      rfl
    have Gy : ∀ c, tw_ok σ t h c = true → (c < hs_m σ ∨ 7 ≤ c) → G c = if ρ c = h then 0 else D + ct_Z B k h ρ c := fun c ok cm => by
      have rn := ct_I_r (c := c) I (by omega)
      by_cases q : ρ c = h
      · rw [decide_eq_true q] at rn
        rw [hG c, if_neg (fun z => by rw [rn] at z; cases z.2), if_pos q]
        rfl
      · rw [decide_eq_false q] at rn
        have c3 : ρ c < hs_m σ ∨ 7 ≤ ρ c := by
          rcases cm with x | x
          · exact I.2.1 c x
          · rw [I.1.1 c (by omega)]
            exact Or.inr x
        rw [hG c, if_pos ⟨ok, rn⟩, if_neg q, ih (h + 1) _ _ (by omega) (ct_I_s I hm nv.2.2 q cm), ct_B_d (by omega) nv.2.2 q (I.1.2 c) c3, ← eB, ← eD]
    have lhs : ((tw_sm σ t (fun _ => 1) (k + 1) h f : Nat) : Int) = dt_z G 9 := (z_cast (F := fun c => if tw_ok σ t h c = true ∧ tw_rn (tw_up f h c) h 7 c = false then tw_sm σ t (fun _ => 1) k (h + 1) (tw_up f h c) else 0) 9).trans (z_eq 9 (fun c _ => (hG c).symm))
    have G78 : G 7 + G 8 = D := by
      by_cases w : tw_wr σ t h = true
      · rw [Gy 7 ((tw_ok_w w).mpr ⟨by decide, tw_ch_iff.mpr (Or.inl rfl)⟩) (Or.inr (by decide)), Gn 8 (fun z => by have := ((tw_ok_w w).mp z).1; omega), if_neg (by omega), Int.add_zero, ct_Z_0 (fun u hu => by omega), Int.add_zero]
      · rw [Gn 7 (fun z => by have := (tw_ok_n w).mp z; omega), Gy 8 ((tw_ok_n w).mpr rfl) (Or.inr (by decide)), if_neg (by omega), Int.zero_add, ct_Z_0 (fun u hu => by omega), Int.add_zero]
    have G7 : ∀ d, hs_m σ + d ≤ 7 → dt_z G (hs_m σ + d) = dt_z G (hs_m σ) := by
      intro d
      induction d with
      | zero => intro _; rfl
      | succ d ihd =>
        intro hd
        show dt_z G (hs_m σ + d) + G (hs_m σ + d) = _
        rw [ihd (by omega), Gn _ (fun z => ?_), Int.add_zero]
        by_cases w : tw_wr σ t h = true
        · rcases tw_ch_iff.mp ((tw_ok_w w).mp z).2 with y | y <;> omega
        · have := (tw_ok_n w).mp z
          omega
    have s9 : dt_z G 9 = dt_z G (hs_m σ) + D := by
      have := G7 (7 - hs_m σ) (by omega)
      rw [show hs_m σ + (7 - hs_m σ) = 7 by omega] at this
      rw [← this, ← G78, ← Int.add_assoc]
      rfl
    have Ge : ∀ v, v < hs_m σ → G v = (if ρ v = h then 0 else ct_e σ t h v) * D + ct_e σ t h v * ct_Z B k h ρ v := fun v hv => by
      have okE : tw_ok σ t h v = true ↔ ct_E σ t h v = true := by
        by_cases w : tw_wr σ t h = true
        · rw [tw_ok_w w, tw_ch_iff, ct_E_iff]
          constructor
          · rintro ⟨_, y | y⟩
            · omega
            · exact ⟨w, y⟩
          · rintro ⟨_, y⟩
            exact ⟨by omega, Or.inr y⟩
        · rw [tw_ok_n w, ct_E_iff]
          constructor
          · intro y; omega
          · rintro ⟨y, _⟩; exact absurd y w
      by_cases k1 : ct_E σ t h v = true
      · rw [Gy v (okE.mpr k1) (Or.inl hv), ct_e_y k1]
        by_cases q : ρ v = h
        · rw [if_pos q, if_pos q, Zh v q, Int.zero_mul, Int.mul_zero]
          rfl
        · rw [if_neg q, if_neg q, Int.one_mul, Int.one_mul]
      · rw [Gn v (fun z => k1 (okE.mp z)), ct_e_n k1, Int.zero_mul]
        split <;> rw [Int.zero_mul] <;> rfl
    have b0 : B 0 0 = 1 + dt_z (fun v => if ρ v = h then 0 else ct_e σ t h v) (hs_m σ) := by
      have e0 : B 0 0 = dt_z (fun v => if ρ v = h then ct_A σ t h v else 0) (hs_m σ) := by rw [eB]; rfl
      have e1 : dt_z (fun v => ct_e σ t h v) (hs_m σ) = dt_z (fun v => (if ρ v = h then 0 else ct_e σ t h v) + (if ρ v = h then ct_e σ t h v else 0)) (hs_m σ) := z_eq _ (fun v _ => by split <;> omega)
      have e2 : dt_z (fun v => if v = h then 0 else if ρ v = h then ct_A σ t h v else 0) (hs_m σ) = (-1) * dt_z (fun v => if ρ v = h then ct_e σ t h v else 0) (hs_m σ) + 0 * dt_z (fun _ => 0) (hs_m σ) := z_lin _ (fun v hv => by
        by_cases vh : v = h
        · rw [if_pos vh, vh, if_pos hh, ct_e_n (ct_E_ir Q hm)]
          rfl
        · rw [if_neg vh]
          by_cases q : ρ v = h
          · rw [if_pos q, if_pos q, ct_A_ne (fun z => vh z.symm)]
            omega
          · rw [if_neg q, if_neg q]
            rfl)
      have e3 := z_pick (f := fun v => if ρ v = h then ct_A σ t h v else 0) (e := h) (hs_m σ) hm
      rw [if_pos hh, ct_A_eq, e1, z_add, e2] at e3
      rw [e0, e3]
      omega
    have bs : dt_z (fun u => B 0 (u + 1) * ct_D B k u) k = -dt_z (fun v => ct_e σ t h v * ct_Z B k h ρ v) (hs_m σ) := by
      have e1 : dt_z (fun u => B 0 (u + 1) * ct_D B k u) k = dt_z (fun u => dt_z (fun v => (if ρ v = h + (u + 1) then ct_A σ t h v else 0) * ct_D B k u) (hs_m σ)) k := z_eq k (fun u _ => by
        have : B 0 (u + 1) = dt_z (fun v => if ρ v = h + (u + 1) then ct_A σ t h v else 0) (hs_m σ) := by rw [eB]; rfl
        rw [z_mul, this])
      have e2 : dt_z (fun v => dt_z (fun u => (if ρ v = h + (u + 1) then ct_A σ t h v else 0) * ct_D B k u) k) (hs_m σ) = (-1) * dt_z (fun v => ct_e σ t h v * ct_Z B k h ρ v) (hs_m σ) + 0 * dt_z (fun _ => 0) (hs_m σ) := z_lin _ (fun v hv => by
        by_cases vh : v = h
        · rw [z_0 (f := fun u => (if ρ v = h + (u + 1) then ct_A σ t h v else 0) * ct_D B k u) k (fun u _ => by rw [if_neg (by rw [vh, hh]; omega), Int.zero_mul]), vh, Zh h hh, Int.mul_zero]
          rfl
        · have : dt_z (fun u => (if ρ v = h + (u + 1) then ct_A σ t h v else 0) * ct_D B k u) k = (-ct_e σ t h v) * dt_z (fun u => if ρ v = h + (u + 1) then ct_D B k u else 0) k + 0 * dt_z (fun _ => 0) k := z_lin k (fun u _ => by
            by_cases q : ρ v = h + (u + 1)
            · rw [if_pos q, if_pos q, ct_A_ne (fun z => vh z.symm), Int.mul_zero, Int.add_zero]
            · rw [if_neg q, if_neg q, Int.zero_mul, Int.mul_zero, Int.mul_zero]
              rfl)
          rw [this, Int.zero_mul, Int.neg_mul]
          show -(ct_e σ t h v * ct_Z B k h ρ v) + 0 = _
          omega)
      rw [e1, z_fub, e2]
      omega
    have sG := z_eq (f := G) (hs_m σ) Ge
    rw [z_add, z_mul] at sG
    rw [lhs, s9, sG, ← eB, ct_un, bs, b0, ← eD, Int.add_mul, Int.one_mul]
    omega
theorem ct_all {σ : Nat → Int32} {t : Nat} (V : s_V σ) (Q : s_Qc σ) (f : Nat → Nat) : ((tw_sm σ t (fun _ => 1) (hs_m σ) 0 f : Nat) : Int) = dt (hs_m σ) (ct_A σ t) := by
  rw [ct_main V Q (hs_m σ) 0 f (fun v => v) (by omega) ct_I_0]
  refine dt_c _ (fun i j _ hj => ?_)
  show dt_z (fun v => if v = 0 + j then ct_A σ t (0 + i) v else 0) (hs_m σ) = _
  have e := z_one (f := fun v => if v = j then ct_A σ t i v else 0) (e := j) (hs_m σ) (fun v _ vn => if_neg vn) hj
  rw [if_pos rfl] at e
  rw [Nat.zero_add, Nat.zero_add]
  exact e
/-! what the matrix is like -/
theorem ct_A_Z {σ : Nat → Int32} {t : Nat} (Q : s_Qc σ) : dt_Z (hs_m σ) (ct_A σ t) := by
  refine ⟨fun i j _ _ h => ?_, fun i hi => ?_⟩
  · rw [ct_A_ne h]
    have := ct_e_r (σ := σ) (t := t) (h := i) (c := j)
    omega
  · rw [z_pick (e := i) (hs_m σ) hi, ct_A_eq]
    have e2 : dt_z (fun v => if v = i then 0 else ct_A σ t i v) (hs_m σ) = (-1) * dt_z (fun v => ct_e σ t i v) (hs_m σ) + 0 * dt_z (fun _ => 0) (hs_m σ) := z_lin _ (fun v hv => by
      by_cases vi : v = i
      · rw [if_pos vi, vi, ct_e_n (ct_E_ir Q hi)]
        rfl
      · rw [if_neg vi, ct_A_ne (fun z => vi z.symm)]
        omega)
    rw [e2]
    omega
theorem ct_A_b {σ : Nat → Int32} {t : Nat} (V : s_V σ) : ∀ r, r < hs_m σ → tw_su (fun s => (ct_A σ t r s).natAbs) (hs_m σ) ≤ 16 := by
  intro r hr
  have nv := s_Vn V
  have zb : 0 ≤ dt_z (fun v => ct_e σ t r v) (hs_m σ) ∧ dt_z (fun v => ct_e σ t r v) (hs_m σ) ≤ 7 := by
    have lo := z_le (f := fun _ => 0) (g := fun v => ct_e σ t r v) (hs_m σ) (fun v _ => ct_e_r.1)
    rw [z_0 (f := fun _ => 0) _ (fun _ _ => rfl)] at lo
    have up : ∀ n, dt_z (fun v => ct_e σ t r v) n ≤ n := by
      intro n
      induction n with
      | zero => exact Int.le_refl 0
      | succ n ih =>
        have := ct_e_r (σ := σ) (t := t) (h := r) (c := n)
        rw [z_un]
        omega
    have := up (hs_m σ)
    omega
  have s := su_if (F := fun _ => 1) (a := 8) (t := r) (hs_m σ)
  have k := tw_su_k (F := fun _ => 1) (B := 1) (hs_m σ) (fun _ _ => Nat.le_refl _)
  have l := tw_su_le (F := fun s => (ct_A σ t r s).natAbs) (G := fun j => if j = r then 8 else 1) (hs_m σ) (fun j _ => by
    by_cases jr : j = r
    · rw [if_pos jr, jr, ct_A_eq]
      omega
    · rw [if_neg jr, ct_A_ne (fun z => jr z.symm)]
      have := ct_e_r (σ := σ) (t := t) (h := r) (c := j)
      omega)
  rw [if_pos hr] at s
  omega
