/-! the class runs steps -/
theorem i_shr4 {x : Int32} : (x >>> ((4 : Int32) &&& 31)).toInt = x.toInt / 16 := by
  have e : (x >>> ((4 : Int32) &&& 31)).toBitVec = x.toBitVec.sshiftRight 4 := rfl
  show (x >>> ((4 : Int32) &&& 31)).toBitVec.toInt = _
  rw [e, BitVec.toInt_sshiftRight, Int.shiftRight_eq_div_pow]
  rfl
theorem i_nnx {x : Int32} (h : 0 ≤ x.toInt) : x.toInt = (x.toBitVec.toNat : Int) := by
  show x.toBitVec.toInt = _
  rw [BitVec.toInt_eq_toNat_cond]
  have h2 : 0 ≤ x.toBitVec.toInt := h
  rw [BitVec.toInt_eq_toNat_cond] at h2
  split
  · rfl
  · rename_i h3
    rw [if_neg h3] at h2
    have := x.toBitVec.isLt
    omega
theorem e_c_i {k : Nat} {v : Int32} (hk : k ≤ 14) (h0 : 0 ≤ v.toInt) (h1 : v.toInt ≤ 99999) : (e_c (k, v)).toInt = 16 * v.toInt + k := by
  have e1 := i_nnx h0
  have e : (e_c (k, v)).toBitVec = BitVec.ofNat 32 k ||| (v.toBitVec <<< (4 : Nat)) := rfl
  have e2 : (e_c (k, v)).toBitVec.toNat = 16 * v.toBitVec.toNat + k := by
    rw [e, BitVec.toNat_or, BitVec.toNat_shiftLeft, BitVec.toNat_ofNat, Nat.mod_eq_of_lt (show k < 2 ^ 32 by omega), Nat.mod_eq_of_lt (by rw [Nat.shiftLeft_eq]; omega), Nat.or_comm, ← Nat.shiftLeft_add_eq_or_of_lt (show k < 2 ^ 4 by omega), Nat.shiftLeft_eq]
    omega
  show (e_c (k, v)).toBitVec.toInt = _
  rw [BitVec.toInt_eq_toNat_of_lt (by omega), e2]
  omega
/-- a step, taken apart -/
theorem e_c_b {k : Nat} {v : Int32} (hk : k ≤ 14) (h0 : 0 ≤ v.toInt) (h1 : v.toInt ≤ 99999) : (e_c (k, v)) &&& (15 : Int32) = Int32.ofNat k ∧ (e_c (k, v)) >>> ((4 : Int32) &&& 31) = v := by
  have e := e_c_i hk h0 h1
  constructor
  · refine Int32.toInt_inj.mp ?_
    rw [i_and15 (by omega), i_ofNat (by omega)]
    omega
  · refine Int32.toInt_inj.mp ?_
    rw [i_shr4]
    omega
/-- the reckoner's things -/
def k_Z (M : gM) : Prop := ((g_k M 6 = (5, 0) ∧ g_k M 7 = (21, 32)) ∧ g_k M 8 = (21, 14)) ∧ (M.2.2.2 6 0 = some 7 ∧ M.2.2.2 6 1 = some 8)
/-- only the stack moved -/
def k_Fz (M M' : gM) : Prop := (M'.1 = M.1 ∧ M'.2.2.2 = M.2.2.2) ∧ (∀ i, i ≠ 6 → M'.2.1 i = M.2.1 i) ∧ (∀ i, i ≠ 7 → M'.2.2.1 i = M.2.2.1 i)
theorem k_zr {M : gM} : k_Fz M M := ⟨⟨rfl, rfl⟩, fun _ _ => rfl, fun _ _ => rfl⟩
theorem k_zt {M M1 M2 : gM} (h1 : k_Fz M M1) (h2 : k_Fz M1 M2) : k_Fz M M2 := ⟨⟨h2.1.1.trans h1.1.1, h2.1.2.trans h1.1.2⟩, fun i h => (h2.2.1 i h).trans (h1.2.1 i h), fun i h => (h2.2.2 i h).trans (h1.2.2 i h)⟩
theorem k_zI {M : gM} {k : Nat} {v : Int32} : k_Fz M (mI M 6 k v) := ⟨⟨rfl, rfl⟩, fun _ hj => g_up_ne _ _ _ hj, fun _ _ => rfl⟩
theorem k_zL {M : gM} {k : Nat} {v : Int64} : k_Fz M (mL M 7 k v) := ⟨⟨rfl, rfl⟩, fun _ _ => rfl, fun _ hj => g_up_ne _ _ _ hj⟩
theorem k_zZ {M M' : gM} (Z : k_Z M) (f : k_Fz M M') : k_Z M' := by
  have hk : ∀ i, g_k M' i = g_k M i := fun i => q_k_of f.1.1
  unfold k_Z at Z ⊢
  simp only [hk, f.1.2]
  exact Z
def k_st (M : gM) (st : List Int64) : Prop := (M.2.1 6 2).toInt = (st.length : Int) ∧ m_K (M.2.2.1 7) st
theorem t_sL {i n : Nat} {j : Int32} {v : Int64} {M : gM} (h : g_k M i = (21, n)) (h0 : 0 ≤ j.toInt) (h1 : j.toInt < (n : Int)) : sL M (some i) j v = some (mL M i j.toNatClampNeg v) := by
  unfold sL
  rw [Option.bind_some, if_pos ⟨by rw [h], by rw [h]; exact gin_of h0 h1⟩]
theorem t_aL {i n : Nat} {j : Int32} {M : gM} (h : g_k M i = (21, n)) (h0 : 0 ≤ j.toInt) (h1 : j.toInt < (n : Int)) : aL M (some i) j = some (M.2.2.1 i j.toNatClampNeg) := by
  unfold aL
  rw [Option.bind_some, if_pos ⟨by rw [h], by rw [h]; exact gin_of h0 h1⟩]
theorem y_mL1 {M : gM} {i k : Nat} {v : Int64} : (mL M i k v).2.2.1 i k = v := by
  show g_up M.2.2.1 i k v i k = v
  unfold g_up
  rw [if_pos rfl, if_pos rfl]
theorem mL_ne {M : gM} {i j k a : Nat} {v : Int64} (h : j ≠ i ∨ a ≠ k) : (mL M i k v).2.2.1 j a = M.2.2.1 j a := by
  show g_up M.2.2.1 i k v j a = _
  unfold g_up
  by_cases c : j = i
  · rw [if_pos c, if_neg (by omega), c]
  · rw [if_neg c]
theorem C_push {M : gM} {st : List Int64} {v : Int64} (Z : k_Z M) (S : k_st M st) (h : st.length < 32) : Ok (F_X5_push (some 6) v M) (fun M' => k_Fz M M' ∧ k_st M' (v :: st)) := by
  obtain ⟨⟨⟨k6, k7⟩, k8⟩, r0, r1⟩ := Z
  have cl := i_cl S.1
  have z32 : (32 : Int32).toInt = 32 := rfl
  delta F_X5_push F_X5_push_b0
  rw [t_gI k6, Option.bind_some, if_neg (fun z => by have := i_le z; have := S.1; omega), t_gR k6 r0, Option.bind_some, Option.bind_some, t_sL k7 (by have := S.1; omega) (by have := S.1; omega), Option.bind_some, cl]
  have k6' : g_k (mL M 7 st.length v) 6 = (5, 0) := k6
  have e2 : (mL M 7 st.length v).2.1 6 2 = M.2.1 6 2 := rfl
  rw [t_gI k6', Option.bind_some, t_pI k6', Option.bind_some, e2, n_inc S.1 (by omega)]
  refine Ok_s ⟨k_zt k_zL k_zI, by rw [y_mI1, i_ofNat (by omega)]; rfl, ?_⟩
  refine ⟨y_mL1, m_K_c (fun q hq => ?_) S.2⟩
  exact mL_ne (Or.inr (by omega))
theorem C_pop {M : gM} {st : List Int64} {v : Int64} (Z : k_Z M) (S : k_st M (v :: st)) (h : st.length < 32) : Ok (F_X5_pop (some 6) M) (fun r => r.1 = v ∧ k_Fz M r.2 ∧ k_st r.2 st) := by
  obtain ⟨⟨⟨k6, k7⟩, k8⟩, r0, r1⟩ := Z
  have s1 : (M.2.1 6 2).toInt = ((st.length + 1 : Nat) : Int) := S.1
  have z1 : (1 : Int32).toInt = 1 := rfl
  have a := i_subc (x := M.2.1 6 2) (c := (1 : Int32)) (n := 1) rfl (by omega) (by omega)
  have al : (M.2.1 6 2 - (1 : Int32)).toInt = (st.length : Int) := by omega
  delta F_X5_pop F_X5_pop_b0
  have k6' : g_k (mI M 6 2 (M.2.1 6 2 - (1 : Int32))) 6 = (5, 0) := k6
  have k7' : g_k (mI M 6 2 (M.2.1 6 2 - (1 : Int32))) 7 = (21, 32) := k7
  rw [t_gI k6, Option.bind_some, if_pos (Int32.le_iff_toInt_le.mpr (by omega)), Option.bind_some, t_pI k6, Option.bind_some, t_gR k6' r0, Option.bind_some, t_gI k6', Option.bind_some, y_mI1, t_aL k7' (by omega) (by omega), Option.bind_some, i_cl al]
  exact Ok_s ⟨S.2.1, k_zI, by rw [y_mI1]; exact al, S.2.2⟩
theorem C_joined {k : Nat} {x y : Int64} {M : gM} (h1 : 2 ≤ k) (h2 : k ≤ 13) : F_X5_joined (Int32.ofNat k) x y M = some (m_o k x y) := by
  delta F_X5_joined F_X5_joined_b0
  have go : ∀ (c : Nat), c ≤ 14 → ((Int32.ofNat k = Int32.ofNat c) ↔ k = c) := fun c hc => ⟨fun e => by
    have := congrArg Int32.toInt e
    rw [i_ofNat (by omega), i_ofNat (by omega)] at this
    omega, fun e => by rw [e]⟩
  have g2 : (Int32.ofNat k = (2 : Int32)) ↔ k = 2 := go 2 (by decide)
  have g3 : (Int32.ofNat k = (3 : Int32)) ↔ k = 3 := go 3 (by decide)
  have g4 : (Int32.ofNat k = (4 : Int32)) ↔ k = 4 := go 4 (by decide)
  have g5 : (Int32.ofNat k = (5 : Int32)) ↔ k = 5 := go 5 (by decide)
  have g6 : (Int32.ofNat k = (6 : Int32)) ↔ k = 6 := go 6 (by decide)
  have g7 : (Int32.ofNat k = (7 : Int32)) ↔ k = 7 := go 7 (by decide)
  have g8 : (Int32.ofNat k = (8 : Int32)) ↔ k = 8 := go 8 (by decide)
  have g9 : (Int32.ofNat k = (9 : Int32)) ↔ k = 9 := go 9 (by decide)
  have g10 : (Int32.ofNat k = (10 : Int32)) ↔ k = 10 := go 10 (by decide)
  have g11 : (Int32.ofNat k = (11 : Int32)) ↔ k = 11 := go 11 (by decide)
  have g12 : (Int32.ofNat k = (12 : Int32)) ↔ k = 12 := go 12 (by decide)
  have ii : ∀ {c : Prop} [Decidable c] {a b : Int64}, (if c then some a else some b) = some (if c then a else b) := by
    intro c _ a b
    by_cases e : c
    · rw [if_pos e, if_pos e]
    · rw [if_neg e, if_neg e]
  have ij : ∀ {a : Int64}, (if (lg_cmp y (0 : Int64)) = 0 then (some (0 : Int64)) else (if y = 0 then none else some a)) = some (if (lg_cmp y (0 : Int64)) = 0 then (0 : Int64) else a) := by
    intro a
    by_cases e : (lg_cmp y (0 : Int64)) = 0
    · rw [if_pos e, if_pos e]
    · rw [if_neg e, if_neg e, if_neg (i_nzJ e)]
  unfold m_o
  rw [ij, ij, ii, ii, ii, ii, ii]
  simp only [g2, g3, g4, g5, g6, g7, g8, g9, g10, g11, g12]
  rcases (by omega : k = 2 ∨ k = 3 ∨ k = 4 ∨ k = 5 ∨ k = 6 ∨ k = 7 ∨ k = 8 ∨ k = 9 ∨ k = 10 ∨ k = 11 ∨ k = 12 ∨ k = 13) with c | c | c | c | c | c | c | c | c | c | c | c <;> subst c <;> rfl
/-- the words -/
def m_W (M : gM) (w : Nat → Int64) : Prop := ∀ i, i ≤ 13 → M.2.2.1 8 i = w i
theorem m_Wz {M M' : gM} {w : Nat → Int64} (W : m_W M w) (f : k_Fz M M') : m_W M' w := fun i h => by rw [f.2.2 8 (by decide)]; exact W i h
theorem C_seg {w : Nat → Int64} {js len to : Nat} {l3 : Int32} (hj : js ≠ 6) (h3 : l3.toInt = (to : Int)) (hto : to ≤ len) (hlen : len ≤ 400) : ∀ {g : List (Nat × Int32)} {d : Nat} {v : Int64}, m_E w g d v → ∀ (n i : Nat) {l4 : Int32} {M : gM} {st : List Int64} {P : Int64 × gM → Prop}, k_Z M → m_W M w → g_k M js = (20, len) → m_L e_c (M.2.1 js) i g → l4.toInt = (i : Int) → i + g.length ≤ to → k_st M st → st.length + d ≤ 32 →
    (∀ M' l, k_Fz M M' → k_st M' (v :: st) → l.toInt = ((i + g.length : Nat) : Int) → Ok (F_X5_run_L8 n (some 6) (some js) l3 l M') P) → Ok (F_X5_run_L8 (n + g.length) (some 6) (some js) l3 l4 M) P := by
  intro g d v E
  -- what every step looks at
  have pre : ∀ (n i : Nat) {l4 : Int32} {M : gM} {P : Int64 × gM → Prop} {a : Nat × Int32}, k_Z M → g_k M js = (20, len) → M.2.1 js i = e_c a → (a.1 ≤ 14 ∧ 0 ≤ a.2.toInt ∧ a.2.toInt ≤ 99999) → l4.toInt = (i : Int) → i < to →
      Ok (if Int32.ofNat a.1 = 0 then ((gO 5 M (some 6)).bind fun i22 => (F_X5_push (some i22) (a.2).toInt64 M).bind fun M23 => F_X5_run_b138 (F_X5_run_L8 n) (some i22) (some js) l3 l4 M23) else (if Int32.ofNat a.1 = (1 : Int32) then (if a.2 < 0 then (F_X5_run_b90 (F_X5_run_L8 n) (some 6) (some js) l3 l4 (some 6) M) else ((gR 5 M (some 6) 1).bind fun v18 => (aN M v18).bind fun v19 => if v19 ≤ a.2 then (F_X5_run_b90 (F_X5_run_L8 n) (some 6) (some js) l3 l4 (some 6) M) else ((gR 5 M (some 6) 1).bind fun v20 => (aL M v20 a.2).bind fun v21 => F_X5_run_b91 (F_X5_run_L8 n) (some 6) (some js) l3 l4 (some 6) v21 M))) else (if Int32.ofNat a.1 = (14 : Int32) then ((gO 5 M (some 6)).bind fun i13 => (F_X5_pop (some i13) M).bind fun (v14, M15) => (gC 5 M15 i13).bind fun _ => (F_X5_push (some i13) ((1 : Int64) - v14) M15).bind fun M17 => F_X5_run_b138 (F_X5_run_L8 n) (some i13) (some js) l3 l4 M17) else ((gO 5 M (some 6)).bind fun i4 => (F_X5_pop (some i4) M).bind fun (v5, M6) => (gC 5 M6 i4).bind fun _ => (F_X5_pop (some i4) M6).bind fun (v8, M9) => (F_X5_joined (Int32.ofNat a.1) v8 v5 M9).bind fun v10 => (gC 5 M9 i4).bind fun _ => (F_X5_push (some i4) v10 M9).bind fun M12 => F_X5_run_b138 (F_X5_run_L8 n) (some i4) (some js) l3 l4 M12)))) P →
      Ok (F_X5_run_L8 (n + 1) (some 6) (some js) l3 l4 M) P := by
    intro n i l4 M P a Z K hs ha h4 hi hP
    show Ok (F_X5_run_b8 (F_X5_run_L8 n) (some 6) (some js) l3 l4 M) P
    have z0 : (0 : Int32).toInt = 0 := rfl
    have cl := i_cl h4
    have b := e_c_b (k := a.1) (v := a.2) ha.1 ha.2.1 ha.2.2
    have on : (Int32.ofNat len).toInt = (len : Int) := i_ofNat (by omega)
    delta F_X5_run_b8
    rw [if_neg (fun z => by have := i_lt z; omega), if_neg (fun z => by have := i_le z; omega), t_aN K (by decide), Option.bind_some, if_neg (fun z => by have := i_le z; omega), t_aI K (by omega) (by omega), Option.bind_some, Option.bind_some, cl, hs]
    have e : (e_c a : Int32) = e_c (a.1, a.2) := rfl
    rw [e, b.1, b.2]
    exact hP
  refine m_Ei (g := g) (d := d) (v := v) (P := fun g d v => ∀ (n i : Nat) {l4 : Int32} {M : gM} {st : List Int64} {P : Int64 × gM → Prop}, k_Z M → m_W M w → g_k M js = (20, len) → m_L e_c (M.2.1 js) i g → l4.toInt = (i : Int) → i + g.length ≤ to → k_st M st → st.length + d ≤ 32 →
    (∀ M' l, k_Fz M M' → k_st M' (v :: st) → l.toInt = ((i + g.length : Nat) : Int) → Ok (F_X5_run_L8 n (some 6) (some js) l3 l M') P) → Ok (F_X5_run_L8 (n + g.length) (some 6) (some js) l3 l4 M) P) ?_ ?_ ?_ ?_ E
  · intro v d h1 h2 hd n i l4 M st P Z W K L h4 hi S h32 g
    have hs : M.2.1 js i = e_c (0, v) := L.1
    refine pre n i (a := (0, v)) Z K hs ⟨Nat.zero_le _, h1, h2⟩ h4 (by have : i + 1 ≤ to := hi; omega) ?_
    dsimp only
    rw [if_pos (show Int32.ofNat 0 = 0 from rfl), t_gO Z.1.1.1, Option.bind_some]
    refine Ok_b (C_push Z S (by omega)) (fun M23 z => ?_)
    exact g _ _ z.1 z.2 (i_nx h4 (by have : i + 1 ≤ to := hi; omega))
  · intro v d j h1 h2 hd n i l4 M st P Z W K L h4 hi S h32 g
    have hs : M.2.1 js i = e_c (1, v) := L.1
    have z0 : (0 : Int32).toInt = 0 := rfl
    have o14 : (Int32.ofNat 14).toInt = 14 := rfl
    refine pre n i (a := (1, v)) Z K hs ⟨by show 1 ≤ 14; decide, by show 0 ≤ v.toInt; omega, by show v.toInt ≤ 99999; omega⟩ h4 (by have : i + 1 ≤ to := hi; omega) ?_
    dsimp only
    rw [if_neg (by decide), if_pos (show Int32.ofNat 1 = 1 from rfl), if_neg (fun z => by have := i_lt z; omega), t_gR Z.1.1.1 Z.2.2, Option.bind_some, t_aN Z.1.2 (by decide), Option.bind_some, if_neg (fun z => by have := i_le z; omega), Option.bind_some, t_aL Z.1.2 (by omega) (by omega), Option.bind_some, i_cl h1, W j h2]
    delta F_X5_run_b91
    rw [t_gO Z.1.1.1, Option.bind_some]
    refine Ok_b (C_push Z S (by omega)) (fun M23 z => ?_)
    exact g _ _ z.1 z.2 (i_nx h4 (by have : i + 1 ≤ to := hi; omega))
  · intro s d v E1 ih n i l4 M st P Z W K L h4 hi S h32 g
    have hi' : i + (s.length + 1) ≤ to := hi
    rw [show n + ((14, (0 : Int32)) :: s).length = (n + 1) + s.length by simp; omega]
    refine ih (n + 1) i Z W K L.2 h4 (by omega) S h32 (fun M1 l f1 S1 hl => ?_)
    have hs : M1.2.1 js (i + s.length) = e_c (14, 0) := by rw [f1.2.1 js hj]; exact L.1
    have Z1 := k_zZ Z f1
    refine pre n (i + s.length) (a := (14, 0)) Z1 (by rw [q_k_of f1.1.1]; exact K) hs ⟨by decide, by decide, by decide⟩ hl (by omega) ?_
    dsimp only
    rw [if_neg (by decide), if_neg (by decide), if_pos (show Int32.ofNat 14 = 14 from rfl), t_gO Z1.1.1.1, Option.bind_some]
    refine Ok_b (C_pop Z1 S1 (by have := (m_Ene E1).2; omega)) (fun y z => ?_)
    obtain ⟨v14, M15⟩ := y
    obtain ⟨e14, f15, S15⟩ := z
    dsimp only at e14 f15 S15 ⊢
    have Z15 := k_zZ Z1 f15
    rw [t_gC Z15.1.1.1, Option.bind_some, e14]
    refine Ok_b (C_push Z15 S15 (by have := (m_Ene E1).2; omega)) (fun M17 z => ?_)
    exact g _ _ (k_zt f1 (k_zt f15 z.1)) z.2 (by rw [i_nx hl (by omega)]; simp; omega)
  · intro k s1 s2 d d2 v1 v2 k1 k2 E1 E2 hd ih1 ih2 n i l4 M st P Z W K L h4 hi S h32 g
    have hi' : i + (s2.length + s1.length + 1) ≤ to := by
      have : i + ((k, (0 : Int32)) :: (s2 ++ s1)).length ≤ to := hi
      simp at this
      omega
    have L2 := m_L_app L.2
    rw [show n + ((k, (0 : Int32)) :: (s2 ++ s1)).length = ((n + 1) + s2.length) + s1.length by simp; omega]
    refine ih1 ((n + 1) + s2.length) i Z W K L2.2 h4 (by omega) S h32 (fun M1 l f1 S1 hl => ?_)
    refine ih2 (n + 1) (i + s1.length) (k_zZ Z f1) (m_Wz W f1) (by rw [q_k_of f1.1.1]; exact K) (by rw [f1.2.1 js hj]; exact L2.1) hl (by omega) S1 (by simp; omega) (fun M2 l' f2 S2 hl' => ?_)
    have f12 := k_zt f1 f2
    have hs : M2.2.1 js (i + s1.length + s2.length) = e_c (k, 0) := by
      rw [f12.2.1 js hj]
      have := L.1
      rw [List.length_append] at this
      rw [show i + s1.length + s2.length = i + (s2.length + s1.length) by omega]
      exact this
    have Z2 := k_zZ Z f12
    have go : ∀ (c : Nat), c ≤ 14 → k ≠ c → ¬ Int32.ofNat k = Int32.ofNat c := fun c hc hn e => by
      have := congrArg Int32.toInt e
      rw [i_ofNat (by omega), i_ofNat (by omega)] at this
      omega
    refine pre n (i + s1.length + s2.length) (a := (k, 0)) Z2 (by rw [q_k_of f12.1.1]; exact K) hs ⟨by show k ≤ 14; omega, by show 0 ≤ (0 : Int32).toInt; decide, by show (0 : Int32).toInt ≤ 99999; decide⟩ hl' (by omega) ?_
    dsimp only
    rw [if_neg (show ¬ Int32.ofNat k = 0 from go 0 (by decide) (by omega)), if_neg (show ¬ Int32.ofNat k = 1 from go 1 (by decide) (by omega)), if_neg (show ¬ Int32.ofNat k = 14 from go 14 (by decide) (by omega)), t_gO Z2.1.1.1, Option.bind_some]
    have n1 := (m_Ene E1).2
    have n2 := (m_Ene E2).2
    refine Ok_b (C_pop Z2 S2 (by simp; omega)) (fun y z => ?_)
    obtain ⟨v5, M6⟩ := y
    obtain ⟨e5, f6, S6⟩ := z
    dsimp only at e5 f6 S6 ⊢
    have Z6 := k_zZ Z2 f6
    rw [t_gC Z6.1.1.1, Option.bind_some, e5]
    refine Ok_b (C_pop Z6 S6 (by omega)) (fun y z => ?_)
    obtain ⟨v8, M9⟩ := y
    obtain ⟨e8, f9, S9⟩ := z
    dsimp only at e8 f9 S9 ⊢
    have Z9 := k_zZ Z6 f9
    rw [e8, C_joined k1 k2, Option.bind_some, t_gC Z9.1.1.1, Option.bind_some]
    refine Ok_b (C_push Z9 S9 (by omega)) (fun M12 z => ?_)
    exact g _ _ (k_zt f12 (k_zt f6 (k_zt f9 z.1))) z.2 (by rw [i_nx hl' (by omega)]; simp; omega)
/-- a segment's value -/
theorem C_run {w : Nat → Int64} {js len i j : Nat} {l2 l3 : Int32} {g : List (Nat × Int32)} {d : Nat} {v : Int64} {M : gM} (hj : js ≠ 6) (hlen : len ≤ 400) (Z : k_Z M) (W : m_W M w) (K : g_k M js = (20, len)) (L : m_L e_c (M.2.1 js) i g) (E : m_E w g d v) (hd : d ≤ 32) (h2 : l2.toInt = (i : Int)) (h3 : l3.toInt = (j : Int)) (hg : g.length + i = j) (hjl : j ≤ len) : Ok (F_X5_run (some 6) (some js) l2 l3 M) (fun r => r.1 = v ∧ k_Fz M r.2) := by
  delta F_X5_run F_X5_run_b0
  rw [t_pI Z.1.1.1, Option.bind_some]
  have f0 : k_Fz M (mI M 6 2 (0 : Int32)) := k_zI
  have S0 : k_st (mI M 6 2 (0 : Int32)) [] := ⟨by rw [y_mI1]; rfl, trivial⟩
  obtain ⟨n, hn⟩ : ∃ n, g_fuel = (n + 1) + g.length := ⟨g_fuel - 1 - g.length, by have : g_fuel = 1000000000 := rfl; omega⟩
  rw [hn]
  refine C_seg hj h3 hjl hlen E (n + 1) i (k_zZ Z f0) (m_Wz W f0) (by rw [q_k_of f0.1.1]; exact K) (by rw [f0.2.1 js hj]; exact L) h2 (by omega) S0 (by simp; omega) (fun M' l f' S' hl => ?_)
  show Ok (F_X5_run_b8 (F_X5_run_L8 n) (some 6) (some js) l3 l M') _
  have Z' := k_zZ Z (k_zt f0 f')
  have z0 : (0 : Int32).toInt = 0 := rfl
  delta F_X5_run_b8 F_X5_run_b144
  rw [if_neg (fun z => by have := i_lt z; omega), if_pos (Int32.le_iff_toInt_le.mpr (by omega)), t_gO Z'.1.1.1, Option.bind_some]
  refine Ok_b (C_pop Z' S' (by decide)) (fun y z => ?_)
  obtain ⟨v2, M3⟩ := y
  exact Ok_s ⟨z.1, k_zt f0 (k_zt f' z.2.1)⟩
