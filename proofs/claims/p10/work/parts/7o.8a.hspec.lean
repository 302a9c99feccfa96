/-! a HOUSE, as the document reads it: a place and the cells of what is told; or a FAULT -/
abbrev hS : Type := Nat × (Nat → Int32)
abbrev hs_R : Type := Nat ⊕ hS
abbrev hs_N : Type := Nat ⊕ (Nat × Int32)
def hs_num (T : gM) (p : Nat) (lo hi : Int) : hs_N := if n_D T p = true then (if n_ok T p lo hi = true then .inr (k_go T p, n_v T p) else .inl (1 + 8 * p + 1)) else .inl (1 + 8 * p + 0)
def hs_b {α : Type} (r : hs_N) (f : Nat → Int32 → Nat ⊕ α) : Nat ⊕ α := match r with
  | .inl e => .inl e
  | .inr x => f x.1 x.2
theorem hs_bl {α : Type} {e : Nat} {f : Nat → Int32 → Nat ⊕ α} : hs_b (.inl e) f = .inl e := rfl
theorem hs_br {α : Type} {x : Nat × Int32} {f : Nat → Int32 → Nat ⊕ α} : hs_b (.inr x) f = f x.1 x.2 := rfl
def hs_set (σ : Nat → Int32) (k : Nat) (v : Int32) : Nat → Int32 := fun j => if j = k then v else σ j
def hs_n (σ : Nat → Int32) : Nat := (σ 1).toNatClampNeg
def hs_m (σ : Nat → Int32) : Nat := (σ 2).toNatClampNeg
def hs_bit (v : Int32) : Int32 := (1 : Int32) <<< (v &&& 31)
def hs_is (a b : Int32) : Int32 := (a >>> (b &&& 31)) &&& 1
def hs_new (σ : Nat → Int32) (h : Nat) : Nat → Int32 := fun j => if 59 + 14 * h ≤ j ∧ j < 73 + 14 * h then (if (j - (59 + 14 * h)) % 2 = 0 then -1 else 0) else σ j
def hs_house (T : gM) (x : hS) : hs_R := hs_b (hs_num T x.1 1 20) fun q v => .inr (q, hs_set (hs_set x.2 5 v) 0 1)
def hs_thing (T : gM) (x : hS) : hs_R := hs_b (hs_num T x.1 0 9) fun q a => hs_b (hs_num T q 0 20) fun q b => hs_b (hs_num T q 0 99) fun q c => .inr (q, hs_set (hs_set (hs_set (hs_set (hs_set x.2 (10 + 4 * hs_n x.2) a) (11 + 4 * hs_n x.2) b) (12 + 4 * hs_n x.2) c) (13 + 4 * hs_n x.2) (-1)) 1 (x.2 1 + 1))
def hs_heir (T : gM) (x : hS) : hs_R := hs_b (hs_num T x.1 0 99) fun q a => hs_b (hs_num T q 0 100) fun q b => .inr (q, hs_set (hs_new (hs_set (hs_set (hs_set x.2 (38 + 2 * hs_m x.2) a) (39 + 2 * hs_m x.2) b) (52 + hs_m x.2) 0) (hs_m x.2)) 2 (x.2 2 + 1))
def hs_song (T : gM) (x : hS) : hs_R := hs_b (hs_num T x.1 0 ((x.2 1).toInt - 1)) fun q v => .inr (q, hs_set x.2 7 (x.2 7 ||| hs_bit v))
def hs_hate (T : gM) (x : hS) : hs_R := hs_b (hs_num T x.1 0 ((x.2 2).toInt - 1)) fun q v => .inr (q, hs_set x.2 6 (x.2 6 ||| hs_bit v))
def hs_cous (T : gM) (x : hS) : hs_R := hs_b (hs_num T x.1 0 ((x.2 2).toInt - 1)) fun q a => hs_b (hs_num T q 0 ((x.2 2).toInt - 1)) fun q2 b =>
  if a = b ∨ hs_is (x.2 (52 + a.toNatClampNeg)) b = 1 then .inl (1 + 8 * q + 1) else .inr (q2, hs_set (hs_set (hs_set x.2 (52 + a.toNatClampNeg) (x.2 (52 + a.toNatClampNeg) ||| hs_bit b)) (52 + b.toNatClampNeg) (x.2 (52 + b.toNatClampNeg) ||| hs_bit a)) 3 (x.2 3 + 1))
def hs_know (T : gM) (x : hS) : hs_R := hs_b (hs_num T x.1 0 ((x.2 2).toInt - 1)) fun q h => hs_b (hs_num T q 0 ((x.2 1).toInt - 1)) fun q t => hs_b (hs_num T q 0 9) fun q a => hs_b (hs_num T q 1 99) fun q s =>
  .inr (q, hs_set (hs_set x.2 (59 + 14 * h.toNatClampNeg + 2 * t.toNatClampNeg) a) (60 + 14 * h.toNatClampNeg + 2 * t.toNatClampNeg) s)
def hs_w (k : Int) : Bool := decide ((k = 275 ∨ k = 262 ∨ k = 268) ∨ (k = 261 ∨ k = 267) ∨ k = 276 ∨ k = 277)
def hs_full (σ : Nat → Int32) (k : Int) : Bool := decide ((k = 262 ∧ 7 ≤ (σ 1).toInt) ∨ (k = 261 ∧ 7 ≤ (σ 2).toInt) ∨ (k = 276 ∧ 10 ≤ (σ 3).toInt))
def hs_bad (σ : Nat → Int32) (k : Int) (cl : Nat) : Bool := decide (40 < cl ∨ ¬ (k = 275 ↔ cl = 1)) || hs_full σ k
def hs_body (T : gM) (k : Int) (x : hS) : hs_R := if k = 261 then hs_heir T x else if k = 262 then hs_thing T x else if k = 267 then hs_hate T x else if k = 268 then hs_song T x else if k = 275 then hs_house T x else if k = 276 then hs_cous T x else hs_know T x
def hs_cl (T : gM) (cl : Nat) (x : hS) : hs_R :=
  if hs_w (k_kind T x.1) = false then .inl (1 + 8 * x.1 + 0) else if hs_bad x.2 (k_kind T x.1) cl = true then .inl (1 + 8 * x.1 + 4) else hs_body T (k_kind T x.1) (k_go T x.1, x.2)
def hs_tl (T : gM) : Nat → Nat → hS → hs_R
  | 0, _, _ => .inl 0
  | n + 1, cl, x => match hs_cl T cl x with
    | .inl e => .inl e
    | .inr y => if k_kind T y.1 = 256 then .inr y else if k_kind T y.1 = 59 then hs_tl T n (cl + 1) (k_go T y.1, y.2) else .inl (1 + 8 * y.1 + 0)
def hs_text (T : gM) (σ : Nat → Int32) : hs_R := hs_tl T 42 1 (n_sk T 0, σ)
/-! what the class holds of it: a House at e, a State at s -/
def k_LE (M : gM) (e : Nat) : Prop := g_k M e = (1, 0) ∧ ∀ i, i < 5 → g_k M (e + 1 + i) = (20, 7) ∧ M.2.2.2 e i = some (e + 1 + i)
def k_LS (M : gM) (s : Nat) : Prop := (g_k M s = (8, 0) ∧ (g_k M (s + 1) = (20, 49) ∧ g_k M (s + 2) = (20, 49)) ∧ g_k M (s + 3) = (20, 7) ∧ g_k M (s + 4) = (20, 7)) ∧ (M.2.2.2 s 0 = some (s + 1) ∧ M.2.2.2 s 1 = some (s + 2)) ∧ M.2.2.2 s 2 = some (s + 3) ∧ M.2.2.2 s 3 = some (s + 4)
def k_E (M : gM) (e : Nat) (σ : Nat → Int32) : Prop := ((M.2.1 e 6 = σ 1 ∧ M.2.1 e 7 = σ 2) ∧ M.2.1 e 8 = σ 3) ∧ (M.2.1 e 9 = σ 7 ∧ M.2.1 e 10 = σ 6) ∧
  (∀ t : Nat, (t : Int) < (σ 1).toInt → (M.2.1 (e + 1) t = σ (10 + 4 * t) ∧ M.2.1 (e + 2) t = σ (11 + 4 * t)) ∧ M.2.1 (e + 3) t = σ (12 + 4 * t)) ∧ ∀ h : Nat, (h : Int) < (σ 2).toInt → M.2.1 (e + 4) h = σ (39 + 2 * h) ∧ M.2.1 (e + 5) h = σ (52 + h)
def k_c (M : gM) (s : Nat) (σ : Nat → Int32) (h t : Nat) : Prop := ((0 < (M.2.1 (s + 2) (7 * h + t)).toInt ∧ 0 ≤ (σ (59 + 14 * h + 2 * t)).toInt) ∧ M.2.1 (s + 1) (7 * h + t) = σ (59 + 14 * h + 2 * t) ∧ M.2.1 (s + 2) (7 * h + t) = σ (60 + 14 * h + 2 * t)) ∨ (M.2.1 (s + 2) (7 * h + t) = 0 ∧ σ (59 + 14 * h + 2 * t) = -1 ∧ σ (60 + 14 * h + 2 * t) = 0)
def k_S (M : gM) (s : Nat) (σ : Nat → Int32) : Prop := ((M.2.1 s 4 = σ 8 ∧ M.2.1 s 5 = σ 4) ∧ M.2.1 s 6 = σ 5) ∧ (∀ h : Nat, (h : Int) < (σ 2).toInt → M.2.1 (s + 3) h = σ (38 + 2 * h) ∧ ∀ t, t < 7 → k_c M s σ h t) ∧ ∀ t : Nat, (t : Int) < (σ 1).toInt → M.2.1 (s + 4) t = σ (13 + 4 * t)
theorem k_LEm {M M' : gM} {e : Nat} (h : k_LE M e) (h1 : ∀ i, g_k M' i = g_k M i) (h2 : M'.2.2.2 = M.2.2.2) : k_LE M' e := ⟨(h1 e).trans h.1, fun i hi => ⟨(h1 _).trans (h.2 i hi).1, by rw [h2]; exact (h.2 i hi).2⟩⟩
theorem k_LSm {M M' : gM} {s : Nat} (h : k_LS M s) (h1 : ∀ i, g_k M' i = g_k M i) (h2 : M'.2.2.2 = M.2.2.2) : k_LS M' s := by
  unfold k_LS at h ⊢
  simp only [h1, h2]
  exact h
theorem k_Em {M M' : gM} {e : Nat} {σ : Nat → Int32} (h : k_E M e σ) (o : ∀ i k, e ≤ i → i ≤ e + 5 → ¬ (i = e ∧ k = 5) → M'.2.1 i k = M.2.1 i k) : k_E M' e σ := by
  have o0 : ∀ k, k ≠ 5 → M'.2.1 e k = M.2.1 e k := fun k hk => o e k (by omega) (by omega) (fun z => hk z.2)
  have o1 : ∀ k, M'.2.1 (e + 1) k = M.2.1 (e + 1) k := fun k => o _ k (by omega) (by omega) (by omega)
  have o2 : ∀ k, M'.2.1 (e + 2) k = M.2.1 (e + 2) k := fun k => o _ k (by omega) (by omega) (by omega)
  have o3 : ∀ k, M'.2.1 (e + 3) k = M.2.1 (e + 3) k := fun k => o _ k (by omega) (by omega) (by omega)
  have o4 : ∀ k, M'.2.1 (e + 4) k = M.2.1 (e + 4) k := fun k => o _ k (by omega) (by omega) (by omega)
  have o5 : ∀ k, M'.2.1 (e + 5) k = M.2.1 (e + 5) k := fun k => o _ k (by omega) (by omega) (by omega)
  unfold k_E at h ⊢
  rw [o0 6 (by decide), o0 7 (by decide), o0 8 (by decide), o0 9 (by decide), o0 10 (by decide)]
  simp only [o1, o2, o3, o4, o5]
  exact h
theorem k_Sm {M M' : gM} {s : Nat} {σ : Nat → Int32} (h : k_S M s σ) (o : ∀ i k, s ≤ i → i ≤ s + 4 → M'.2.1 i k = M.2.1 i k) : k_S M' s σ := by
  have o0 : ∀ k, M'.2.1 s k = M.2.1 s k := fun k => o s k (by omega) (by omega)
  have o1 : ∀ k, M'.2.1 (s + 1) k = M.2.1 (s + 1) k := fun k => o _ k (by omega) (by omega)
  have o2 : ∀ k, M'.2.1 (s + 2) k = M.2.1 (s + 2) k := fun k => o _ k (by omega) (by omega)
  have o3 : ∀ k, M'.2.1 (s + 3) k = M.2.1 (s + 3) k := fun k => o _ k (by omega) (by omega)
  have o4 : ∀ k, M'.2.1 (s + 4) k = M.2.1 (s + 4) k := fun k => o _ k (by omega) (by omega)
  unfold k_S k_c at h ⊢
  simp only [o0, o1, o2, o3, o4]
  exact h
theorem mI_if {M : gM} {i k j a : Nat} {v : Int32} : (mI M i k v).2.1 j a = if j = i ∧ a = k then v else M.2.1 j a := by
  by_cases c : j = i ∧ a = k
  · rw [if_pos c, c.1, c.2]
    exact y_mI1
  · rw [if_neg c]
    exact mI_ne (by omega)
/-! steps, one by one -/
theorem x_gI {c i k : Nat} {v : Int32} {M : gM} {β : Type} {f : Int32 → Option β} {Q : β → Prop} (h : g_k M i = (c, 0)) (e : M.2.1 i k = v) (g : Ok (f v) Q) : Ok ((gI c M (some i) k).bind f) Q := by
  rw [t_gI h, Option.bind_some, e]
  exact g
theorem x_gR {c i k : Nat} {w : Option Nat} {M : gM} {β : Type} {f : Option Nat → Option β} {Q : β → Prop} (h : g_k M i = (c, 0)) (e : M.2.2.2 i k = w) (g : Ok (f w) Q) : Ok ((gR c M (some i) k).bind f) Q := by
  rw [t_gR h e, Option.bind_some]
  exact g
theorem x_gO {c i : Nat} {M : gM} {β : Type} {f : Nat → Option β} {Q : β → Prop} (h : g_k M i = (c, 0)) (g : Ok (f i) Q) : Ok ((gO c M (some i)).bind f) Q := by
  rw [t_gO h, Option.bind_some]
  exact g
theorem x_gC {c i : Nat} {M : gM} {β : Type} {f : Unit → Option β} {Q : β → Prop} (h : g_k M i = (c, 0)) (g : Ok (f ()) Q) : Ok ((gC c M i).bind f) Q := by
  rw [t_gC h, Option.bind_some]
  exact g
theorem x_aI {t i n k : Nat} {j v : Int32} {M : gM} {β : Type} {f : Int32 → Option β} {Q : β → Prop} (h : g_k M i = (t, n)) (hj : j.toInt = (k : Int)) (hk : k < n) (e : M.2.1 i k = v) (g : Ok (f v) Q) : Ok ((aI t M (some i) j).bind f) Q := by
  rw [t_aI h (by omega) (by omega), Option.bind_some, i_cl hj, e]
  exact g
theorem x_pI {c i k : Nat} {v : Int32} {M : gM} {β : Type} {f : gM → Option β} {Q : β → Prop} (h : g_k M i = (c, 0)) (g : Ok (f (mI M i k v)) Q) : Ok ((pI c M (some i) k v).bind f) Q := by
  rw [t_pI h, Option.bind_some]
  exact g
theorem x_sI {i n k : Nat} {j v : Int32} {M : gM} {β : Type} {f : gM → Option β} {Q : β → Prop} (h : g_k M i = (20, n)) (hj : j.toInt = (k : Int)) (hk : k < n) (g : Ok (f (mI M i k v)) Q) : Ok ((sI M (some i) j v).bind f) Q := by
  rw [t_sI h (by omega) (by omega), Option.bind_some, i_cl hj]
  exact g
theorem x_eq {α β : Type} {o : Option α} {a : α} {f : α → Option β} {Q : β → Prop} (h : o = some a) (g : Ok (f a) Q) : Ok (o.bind f) Q := by
  rw [h, Option.bind_some]
  exact g
