/-! TESTS: what waits -/
/-! what waits: brackets 91, NOT 11, AND 12, OR 13, the newest first -/
def t_dp : List Int32 → Nat
  | [] => 0
  | w :: σ => t_dp σ + (if w = 91 ∨ w = 11 then 1 else 0)
def t_top : List Int32 → Int32
  | [] => 0
  | w :: _ => n_st w
def t_wf : List Int32 → Prop
  | [] => True
  | w :: σ => (w = 91 ∨ w = 11 ∨ ((w = 12 ∨ w = 13) ∧ t_top σ < n_st w)) ∧ t_wf σ
def t_1 (T : gM) (d : Nat) (y : sS) : s_R := s_loop T 1 (s_F T d) 402 y
def t_0 (T : gM) (d : Nat) (y : sS) : s_R := s_loop T 0 (s_join T 1 (s_F T d)) 402 y
theorem t_1_d {T : gM} {d : Nat} : s_loop T 1 (s_F T d) 402 = t_1 T d := rfl
theorem t_0_d {T : gM} {d : Nat} : s_loop T 0 (s_join T 1 (s_F T d)) 402 = t_0 T d := rfl
theorem t_j1 {T : gM} {d : Nat} {x : sS} : s_join T 1 (s_F T d) x = s_b (s_F T d x) (t_1 T d) := rfl
theorem t_j0 {T : gM} {d : Nat} {x : sS} : s_J T 0 d x = s_b (s_b (s_F T d x) (t_1 T d)) (t_0 T d) := rfl
theorem t_jo1 {k : Int} (h : k ≠ 281) : s_jo 1 k = 0 := by
  unfold s_jo
  simp [h]
theorem t_jo0 {k : Int} (h : k ≠ 282) : s_jo 0 k = 0 := by
  unfold s_jo
  simp [h]
theorem t_1_end {T : gM} {d : Nat} {y : sS} (k : k_kind T y.1 ≠ 281) : t_1 T d y = .inr y := s_loop_end (t_jo1 k)
theorem t_0_end {T : gM} {d : Nat} {y : sS} (k : k_kind T y.1 ≠ 282) : t_0 T d y = .inr y := s_loop_end (t_jo0 k)
theorem t_1_go {T : gM} (B : z_B T) {d : Nat} {y : sS} (k : k_kind T y.1 = 281) : t_1 T d y = s_b (s_F T d (k_go T y.1, y.2)) (fun z => t_1 T d (s_push z (12, 0))) := by
  have j2 : s_jo 1 (k_kind T y.1) = 12 := by rw [k]; rfl
  rw [← t_1_d, s_loop_go B s_F_mo (by rw [j2]; decide), j2]
theorem t_0_go {T : gM} (B : z_B T) {d : Nat} {y : sS} (k : k_kind T y.1 = 282) : t_0 T d y = s_b (s_F T d (k_go T y.1, y.2)) (fun z => s_b (t_1 T d z) (fun z => t_0 T d (s_push z (13, 0)))) := by
  have j2 : s_jo 0 (k_kind T y.1) = 13 := by rw [k]; rfl
  rw [← t_0_d, s_loop_go B (s_join_mo s_F_mo) (by rw [j2]; decide), j2, t_j1, s_b_a]
/-- the rest of the TEST: behind a FACT; with true, behind a PART -/
def t_K (T : gM) : List Int32 → Bool → sS → s_R
  | [], b, y => if b = true then t_0 T 0 y else s_b (t_1 T 0 y) (t_0 T 0)
  | w :: σ, b, y =>
    if w = 91 then (if b = true then s_b (t_0 T (t_dp σ + 1) y) (fun z => s_b (s_close T z) (t_K T σ false)) else s_b (t_1 T (t_dp σ + 1) y) (fun y => s_b (t_0 T (t_dp σ + 1) y) (fun z => s_b (s_close T z) (t_K T σ false))))
    else if w = 11 then t_K T σ false (s_push y (14, 0))
    else if w = 12 then t_K T σ false (s_push y (12, 0))
    else if b = true then t_K T σ true (s_push y (13, 0)) else s_b (t_1 T (t_dp σ) y) (fun z => t_K T σ true (s_push z (13, 0)))
def t_op (w : Int32) : Nat := if w = 11 then 14 else if w = 12 then 12 else 13
def t_sv (least : Int32) : List Int32 → sS → List Int32 × sS
  | [], y => ([], y)
  | w :: σ, y => if n_st w < least then (w :: σ, y) else t_sv least σ (s_push y (t_op w, 0))
