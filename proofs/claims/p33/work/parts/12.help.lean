/-! what the functions are written in -/
def g_fuel : Nat := 1000000000
theorem g_no {β : Type} {P : Prop} {b : β} (h : (none : Option β) = some b) : P := by cases h
theorem g_ip {c : Prop} [Decidable c] {α : Type} {a b r : α} (hc : c) (h : (if c then a else b) = r) : a = r := by rw [if_pos hc] at h; exact h
theorem g_ie {c : Prop} [Decidable c] {α : Type} {a b r : α} (hc : ¬ c) (h : (if c then a else b) = r) : b = r := by rw [if_neg hc] at h; exact h
theorem g_ife {c : Prop} [Decidable c] {β : Type} {a : Option β} {b : β} (h : (if c then none else a) = some b) : ¬ c ∧ a = some b := by
  by_cases hc : c
  · rw [if_pos hc] at h
    cases h
  · rw [if_neg hc] at h
    exact ⟨hc, h⟩
theorem g_if2 {c : Prop} [Decidable c] {β : Type} {a : Option β} {b : β} (h : (if c then a else none) = some b) : c ∧ a = some b := by
  by_cases hc : c
  · rw [if_pos hc] at h
    exact ⟨hc, h⟩
  · rw [if_neg hc] at h
    cases h
theorem g_zok {v : Int32} (h : v = 0 ∨ v = 1) : g_rok (some .boolean) (some (vi v)) := by
  rcases h with rfl | rfl <;> rfl
def gO (c : Nat) (M : gM) (r : Option Nat) : Option Nat := r.bind fun i => if g_k M i = (c, 0) then some i else none
def gC (c : Nat) (M : gM) (i : Nat) : Option Unit := if g_k M i = (c, 0) then some () else none
theorem g_gO {c : Nat} {M : gM} {r : Option Nat} {i : Nat} (h : gO c M r = some i) : r = some i ∧ g_k M i = (c, 0) := by
  obtain ⟨j, rfl, h⟩ := g_bd h
  obtain ⟨h1, rfl⟩ := g_if h
  exact ⟨rfl, h1⟩
theorem g_gC {c : Nat} {M : gM} {i : Nat} {u : Unit} (h : gC c M i = some u) : g_k M i = (c, 0) := (g_if h).1
theorem g_cl_k {b : Nat} {M M2 : gM} {r : Option Nat} (h : clI b M r = some M2) : (g_k M2 M.1.length).1 = 20 := by
  obtain ⟨i, rfl, h⟩ := g_bd h
  obtain ⟨h1, rfl⟩ := g_if h
  simp [g_k]
theorem g_tab {lo hi : Int} {x : Int32} {P : Prop} (h1 : (x.toInt < lo ∨ hi < x.toInt) → P) (h2 : ¬ x.toInt < lo → ¬ hi < x.toInt → P) : P := by
  by_cases h : x.toInt < lo ∨ hi < x.toInt
  · exact h1 h
  · exact h2 (fun z => h (Or.inl z)) (fun z => h (Or.inr z))
theorem g_nk {x c : Int32} {k : Int} (h : ¬ x = c) (hc : c.toInt = k) : ¬ x.toInt = k := fun e => h (Int32.toInt_inj.mp (e.trans hc.symm))
theorem g_cok0 : g_cok 0 := ⟨by decide, g_ok0⟩
theorem nf_0 : ∀ k, k < g_N 0 → g_ty 0 k ≠ .float ∧ g_ty 0 k ≠ .double := by decide +kernel
theorem g_cok1 : g_cok 1 := ⟨by decide, g_ok1⟩
theorem nf_1 : ∀ k, k < g_N 1 → g_ty 1 k ≠ .float ∧ g_ty 1 k ≠ .double := by decide +kernel
theorem g_cok2 : g_cok 2 := ⟨by decide, g_ok2⟩
theorem nf_2 : ∀ k, k < g_N 2 → g_ty 2 k ≠ .float ∧ g_ty 2 k ≠ .double := by decide +kernel
theorem g_cok3 : g_cok 3 := ⟨by decide, g_ok3⟩
theorem nf_3 : ∀ k, k < g_N 3 → g_ty 3 k ≠ .float ∧ g_ty 3 k ≠ .double := by decide +kernel
theorem g_cok4 : g_cok 4 := ⟨by decide, g_ok4⟩
theorem nf_4 : ∀ k, k < g_N 4 → g_ty 4 k ≠ .float ∧ g_ty 4 k ≠ .double := by decide +kernel
theorem g_cok5 : g_cok 5 := ⟨by decide, g_ok5⟩
theorem nf_5 : ∀ k, k < g_N 5 → g_ty 5 k ≠ .float ∧ g_ty 5 k ≠ .double := by decide +kernel
theorem g_cok6 : g_cok 6 := ⟨by decide, g_ok6⟩
theorem nf_6 : ∀ k, k < g_N 6 → g_ty 6 k ≠ .float ∧ g_ty 6 k ≠ .double := by decide +kernel
theorem g_cok7 : g_cok 7 := ⟨by decide, g_ok7⟩
theorem nf_7 : ∀ k, k < g_N 7 → g_ty 7 k ≠ .float ∧ g_ty 7 k ≠ .double := by decide +kernel
theorem g_cok8 : g_cok 8 := ⟨by decide, g_ok8⟩
theorem nf_8 : ∀ k, k < g_N 8 → g_ty 8 k ≠ .float ∧ g_ty 8 k ≠ .double := by decide +kernel
theorem g_cok9 : g_cok 9 := ⟨by decide, g_ok9⟩
theorem nf_9 : ∀ k, k < g_N 9 → g_ty 9 k ≠ .float ∧ g_ty 9 k ≠ .double := by decide +kernel
theorem g_cok10 : g_cok 10 := ⟨by decide, g_ok10⟩
theorem nf_10 : ∀ k, k < g_N 10 → g_ty 10 k ≠ .float ∧ g_ty 10 k ≠ .double := by decide +kernel
theorem g_cok11 : g_cok 11 := ⟨by decide, g_ok11⟩
theorem nf_11 : ∀ k, k < g_N 11 → g_ty 11 k ≠ .float ∧ g_ty 11 k ≠ .double := by decide +kernel
theorem g_cok12 : g_cok 12 := ⟨by decide, g_ok12⟩
theorem nf_12 : ∀ k, k < g_N 12 → g_ty 12 k ≠ .float ∧ g_ty 12 k ≠ .double := by decide +kernel
theorem g_rok0 : g_rok (some .boolean) (some (vi 0)) := rfl
theorem g_rok1 : g_rok (some .boolean) (some (vi 1)) := rfl
