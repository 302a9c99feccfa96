def g_M0 (L : Nat) (xs : Nat → Int32) : gM := ([(30, L), (31, 0)], fun i k => if i = 0 then xs k else 0, fun _ _ => 0, fun _ _ => none)
theorem mI_K (M : gM) (i k : Nat) (v : Int32) : (mI M i k v).1 = M.1 := rfl
theorem mL_K (M : gM) (i k : Nat) (v : Int64) : (mL M i k v).1 = M.1 := rfl
theorem mR_K (M : gM) (i k : Nat) (v : Option Nat) : (mR M i k v).1 = M.1 := rfl
theorem nw_K (q : Nat × Nat) (M : gM) : (nw q M).1 = M.1 ++ [q] := rfl
theorem mI_Rn (M : gM) (i k : Nat) (v : Int32) : (mI M i k v).2.2.2 = M.2.2.2 := rfl
theorem nw_R {M : gM} {q : Nat × Nat} {n : Nat} {F : Nat → Nat → Option Nat} (hl : M.1.length = n) (h : M.2.2.2 = F) : (nw q M).2.2.2 = g_row F n (fun _ => none) := by subst hl; subst h; rfl
theorem nw_I {M : gM} {q : Nat × Nat} {n : Nat} {F : Nat → Nat → Int32} (hl : M.1.length = n) (h : ∀ i, i ≠ 0 → M.2.1 i = F i) : ∀ i, i ≠ 0 → (nw q M).2.1 i = g_row F n (fun _ => 0) i := by
  intro i hi
  subst hl
  funext k
  show g_row M.2.1 _ _ i k = _
  unfold g_row
  rw [h i hi]
theorem nw_L {M : gM} {q : Nat × Nat} (h : ∀ i k, M.2.2.1 i k = 0) : ∀ i k, (nw q M).2.2.1 i k = 0 := by
  intro i k
  show g_row M.2.2.1 _ _ i k = 0
  unfold g_row
  split
  · rfl
  · exact h i k
theorem mR_Rr {M : gM} {i k : Nat} {v : Option Nat} {F : Nat → Nat → Option Nat} (h : M.2.2.2 = F) : (mR M i k v).2.2.2 = g_up F i k v := by subst h; rfl
theorem mI_I {M : gM} {a k : Nat} {v : Int32} {F : Nat → Nat → Int32} (h : ∀ i, i ≠ 0 → M.2.1 i = F i) : ∀ i, i ≠ 0 → (mI M a k v).2.1 i = g_up F a k v i := by
  intro i hi
  funext b
  show g_up M.2.1 _ _ _ i b = _
  unfold g_up
  rw [h i hi]
theorem mR_In {M : gM} {a k : Nat} {v : Option Nat} {F : Nat → Nat → Int32} (h : ∀ i, i ≠ 0 → M.2.1 i = F i) : ∀ i, i ≠ 0 → (mR M a k v).2.1 i = F i := h
theorem mI_Ln {M : gM} {a b : Nat} {v : Int32} (h : ∀ i k, M.2.2.1 i k = 0) : ∀ i k, (mI M a b v).2.2.1 i k = 0 := h
theorem mR_Ln {M : gM} {a b : Nat} {v : Option Nat} (h : ∀ i k, M.2.2.1 i k = 0) : ∀ i k, (mR M a b v).2.2.1 i k = 0 := h
theorem gR_of {c i k : Nat} {M : gM} {v : Option Nat} (h : g_k M i = (c, 0)) (hv : M.2.2.2 i k = v) : gR c M (some i) k = some v := by
  unfold gR
  rw [Option.bind_some, if_pos h, hv]
theorem pR_of {c i k : Nat} {M : gM} {v : Option Nat} (h : g_k M i = (c, 0)) : pR c M (some i) k v = some (mR M i k v) := by
  unfold pR
  rw [Option.bind_some, if_pos h]
theorem pI_of {c i k : Nat} {M : gM} {v : Int32} (h : g_k M i = (c, 0)) : pI c M (some i) k v = some (mI M i k v) := by
  unfold pI
  rw [Option.bind_some, if_pos h]
theorem pL_of {c i k : Nat} {M : gM} {v : Int64} (h : g_k M i = (c, 0)) : pL c M (some i) k v = some (mL M i k v) := by
  unfold pL
  rw [Option.bind_some, if_pos h]
theorem sR_of {t i v n k : Nat} {M : gM} {j : Int32} (h : g_k M i = (t, n)) (hv : g_k M v = (g_el t, 0)) (hj : gin j n = true) (hk : j.toNatClampNeg = k) : sR t M (some i) j (some v) = some (mR M i k (some v)) := by
  unfold sR
  subst hk
  rw [Option.bind_some, Option.bind_some, if_pos ⟨⟨by rw [h], by rw [h]; exact hj⟩, hv⟩]
/-! the two constructors run once, with numbers (written by program) -/
def MC_0 (L : Nat) (xs : Nat → Int32) : gM := g_M0 L xs
theorem LN_0 (L : Nat) (xs : Nat → Int32) : (MC_0 L xs).1.length = 2 := rfl
def RC_0 : Nat → Nat → Option Nat := fun _ _ => none
theorem RR_0 (L : Nat) (xs : Nat → Int32) : (MC_0 L xs).2.2.2 = RC_0 := rfl
def IC_0 : Nat → Nat → Int32 := fun _ _ => 0
theorem II_0 (L : Nat) (xs : Nat → Int32) : ∀ i, i ≠ 0 → (MC_0 L xs).2.1 i = IC_0 i := fun i h => by funext k; show (if i = 0 then _ else _) = _; rw [if_neg h]; rfl
theorem LL_0 (L : Nat) (xs : Nat → Int32) : ∀ i k, (MC_0 L xs).2.2.1 i k = 0 := fun _ _ => rfl
def g_K0 (L : Nat) : List (Nat × Nat) := [(30, L), (31, 0), (11, 0), (25, 6), (10, 0), (20, 49), (5, 0), (21, 32), (21, 14), (8, 0), (20, 49), (20, 49), (20, 7), (20, 7), (8, 0), (20, 49), (20, 49), (20, 7), (20, 7), (4, 0), (24, 20), (8, 0), (20, 49), (20, 49), (20, 7), (20, 7), (8, 0), (20, 49), (20, 49), (20, 7), (20, 7), (8, 0), (20, 49), (20, 49), (20, 7), (20, 7), (8, 0), (20, 49), (20, 49), (20, 7), (20, 7), (8, 0), (20, 49), (20, 49), (20, 7), (20, 7), (8, 0), (20, 49), (20, 49), (20, 7), (20, 7), (8, 0), (20, 49), (20, 49), (20, 7), (20, 7), (8, 0), (20, 49), (20, 49), (20, 7), (20, 7), (8, 0), (20, 49), (20, 49), (20, 7), (20, 7), (8, 0), (20, 49), (20, 49), (20, 7), (20, 7), (8, 0), (20, 49), (20, 49), (20, 7), (20, 7), (8, 0), (20, 49), (20, 49), (20, 7), (20, 7), (8, 0), (20, 49), (20, 49), (20, 7), (20, 7), (8, 0), (20, 49), (20, 49), (20, 7), (20, 7), (8, 0), (20, 49), (20, 49), (20, 7), (20, 7), (8, 0), (20, 49), (20, 49), (20, 7), (20, 7), (8, 0), (20, 49), (20, 49), (20, 7), (20, 7), (8, 0), (20, 49), (20, 49), (20, 7), (20, 7), (8, 0), (20, 49), (20, 49), (20, 7), (20, 7), (8, 0), (20, 49), (20, 49), (20, 7), (20, 7), (26, 4), (20, 21), (0, 0), (21, 49), (1, 0), (20, 7), (20, 7), (20, 7), (20, 7), (20, 7), (9, 0), (22, 400), (20, 401), (20, 401), (20, 401), (2, 0), (1, 0), (20, 7), (20, 7), (20, 7), (20, 7), (20, 7), (8, 0), (20, 49), (20, 49), (20, 7), (20, 7), (7, 0), (20, 400), (20, 36), (3, 0), (8, 0), (20, 49), (20, 49), (20, 7), (20, 7), (3, 0), (8, 0), (20, 49), (20, 49), (20, 7), (20, 7), (3, 0), (8, 0), (20, 49), (20, 49), (20, 7), (20, 7), (3, 0), (8, 0), (20, 49), (20, 49), (20, 7), (20, 7), (12, 0), (22, 400), (20, 2400), (20, 7), (20, 288), (20, 6), (20, 157), (20, 400), (21, 64), (21, 14), (20, 157), (20, 49), (20, 3140), (20, 157), (20, 7), (20, 56), (20, 100), (20, 100), (20, 628), (20, 4), (20, 4), (23, 4)]
theorem KC_0 (L : Nat) (xs : Nat → Int32) : (MC_0 L xs).1 = (g_K0 L).take 2 := rfl
def MC_1 (L : Nat) (xs : Nat → Int32) : gM := nw (11, 0) (MC_0 L xs)
theorem NW_1 (L : Nat) (xs : Nat → Int32) : nw (11, 0) (MC_0 L xs) = MC_1 L xs := rfl
theorem KC_1 (L : Nat) (xs : Nat → Int32) : (MC_1 L xs).1 = (g_K0 L).take 3 := (nw_K _ (MC_0 L xs)).trans (by rw [KC_0]; rfl)
theorem LN_1 (L : Nat) (xs : Nat → Int32) : (MC_1 L xs).1.length = 3 := by rw [KC_1]; rfl
def RC_1 : Nat → Nat → Option Nat := g_row RC_0 2 (fun _ => none)
theorem RR_1 (L : Nat) (xs : Nat → Int32) : (MC_1 L xs).2.2.2 = RC_1 := nw_R (LN_0 L xs) (RR_0 L xs)
def IC_1 : Nat → Nat → Int32 := g_row IC_0 2 (fun _ => 0)
theorem II_1 (L : Nat) (xs : Nat → Int32) : ∀ i, i ≠ 0 → (MC_1 L xs).2.1 i = IC_1 i := nw_I (LN_0 L xs) (II_0 L xs)
theorem LL_1 (L : Nat) (xs : Nat → Int32) : ∀ i k, (MC_1 L xs).2.2.1 i k = 0 := nw_L (LL_0 L xs)
def MC_2 (L : Nat) (xs : Nat → Int32) : gM := nw (25, 6) (MC_1 L xs)
theorem NW_2 (L : Nat) (xs : Nat → Int32) : nw (25, 6) (MC_1 L xs) = MC_2 L xs := rfl
theorem KC_2 (L : Nat) (xs : Nat → Int32) : (MC_2 L xs).1 = (g_K0 L).take 4 := (nw_K _ (MC_1 L xs)).trans (by rw [KC_1]; rfl)
theorem LN_2 (L : Nat) (xs : Nat → Int32) : (MC_2 L xs).1.length = 4 := by rw [KC_2]; rfl
def RC_2 : Nat → Nat → Option Nat := g_row RC_1 3 (fun _ => none)
theorem RR_2 (L : Nat) (xs : Nat → Int32) : (MC_2 L xs).2.2.2 = RC_2 := nw_R (LN_1 L xs) (RR_1 L xs)
def IC_2 : Nat → Nat → Int32 := g_row IC_1 3 (fun _ => 0)
theorem II_2 (L : Nat) (xs : Nat → Int32) : ∀ i, i ≠ 0 → (MC_2 L xs).2.1 i = IC_2 i := nw_I (LN_1 L xs) (II_1 L xs)
theorem LL_2 (L : Nat) (xs : Nat → Int32) : ∀ i k, (MC_2 L xs).2.2.1 i k = 0 := nw_L (LL_1 L xs)
def MC_3 (L : Nat) (xs : Nat → Int32) : gM := mR (MC_2 L xs) 2 3 (some 3)
theorem ST_3 (L : Nat) (xs : Nat → Int32) : pR 11 (MC_2 L xs) (some 2) 3 (some 3) = some (MC_3 L xs) := pR_of (by unfold g_k; rw [KC_2]; rfl)
theorem KC_3 (L : Nat) (xs : Nat → Int32) : (MC_3 L xs).1 = (g_K0 L).take 4 := (mR_K (MC_2 L xs) _ _ _).trans (KC_2 L xs)
theorem LN_3 (L : Nat) (xs : Nat → Int32) : (MC_3 L xs).1.length = 4 := by rw [KC_3]; rfl
def RC_3 : Nat → Nat → Option Nat := g_up RC_2 2 3 (some 3)
theorem RR_3 (L : Nat) (xs : Nat → Int32) : (MC_3 L xs).2.2.2 = RC_3 := mR_Rr (RR_2 L xs)
theorem II_3 (L : Nat) (xs : Nat → Int32) : ∀ i, i ≠ 0 → (MC_3 L xs).2.1 i = IC_2 i := mR_In (II_2 L xs)
theorem LL_3 (L : Nat) (xs : Nat → Int32) : ∀ i k, (MC_3 L xs).2.2.1 i k = 0 := mR_Ln (LL_2 L xs)
def MC_4 (L : Nat) (xs : Nat → Int32) : gM := nw (10, 0) (MC_3 L xs)
theorem NW_4 (L : Nat) (xs : Nat → Int32) : nw (10, 0) (MC_3 L xs) = MC_4 L xs := rfl
theorem KC_4 (L : Nat) (xs : Nat → Int32) : (MC_4 L xs).1 = (g_K0 L).take 5 := (nw_K _ (MC_3 L xs)).trans (by rw [KC_3]; rfl)
theorem LN_4 (L : Nat) (xs : Nat → Int32) : (MC_4 L xs).1.length = 5 := by rw [KC_4]; rfl
def RC_4 : Nat → Nat → Option Nat := g_row RC_3 4 (fun _ => none)
theorem RR_4 (L : Nat) (xs : Nat → Int32) : (MC_4 L xs).2.2.2 = RC_4 := nw_R (LN_3 L xs) (RR_3 L xs)
def IC_4 : Nat → Nat → Int32 := g_row IC_2 4 (fun _ => 0)
theorem II_4 (L : Nat) (xs : Nat → Int32) : ∀ i, i ≠ 0 → (MC_4 L xs).2.1 i = IC_4 i := nw_I (LN_3 L xs) (II_3 L xs)
theorem LL_4 (L : Nat) (xs : Nat → Int32) : ∀ i k, (MC_4 L xs).2.2.1 i k = 0 := nw_L (LL_3 L xs)
def MC_5 (L : Nat) (xs : Nat → Int32) : gM := nw (20, 49) (MC_4 L xs)
theorem NW_5 (L : Nat) (xs : Nat → Int32) : nw (20, 49) (MC_4 L xs) = MC_5 L xs := rfl
theorem KC_5 (L : Nat) (xs : Nat → Int32) : (MC_5 L xs).1 = (g_K0 L).take 6 := (nw_K _ (MC_4 L xs)).trans (by rw [KC_4]; rfl)
theorem LN_5 (L : Nat) (xs : Nat → Int32) : (MC_5 L xs).1.length = 6 := by rw [KC_5]; rfl
def RC_5 : Nat → Nat → Option Nat := g_row RC_4 5 (fun _ => none)
theorem RR_5 (L : Nat) (xs : Nat → Int32) : (MC_5 L xs).2.2.2 = RC_5 := nw_R (LN_4 L xs) (RR_4 L xs)
def IC_5 : Nat → Nat → Int32 := g_row IC_4 5 (fun _ => 0)
theorem II_5 (L : Nat) (xs : Nat → Int32) : ∀ i, i ≠ 0 → (MC_5 L xs).2.1 i = IC_5 i := nw_I (LN_4 L xs) (II_4 L xs)
theorem LL_5 (L : Nat) (xs : Nat → Int32) : ∀ i k, (MC_5 L xs).2.2.1 i k = 0 := nw_L (LL_4 L xs)
def MC_6 (L : Nat) (xs : Nat → Int32) : gM := mR (MC_5 L xs) 4 0 (some 5)
theorem ST_6 (L : Nat) (xs : Nat → Int32) : pR 10 (MC_5 L xs) (some 4) 0 (some 5) = some (MC_6 L xs) := pR_of (by unfold g_k; rw [KC_5]; rfl)
theorem KC_6 (L : Nat) (xs : Nat → Int32) : (MC_6 L xs).1 = (g_K0 L).take 6 := (mR_K (MC_5 L xs) _ _ _).trans (KC_5 L xs)
theorem LN_6 (L : Nat) (xs : Nat → Int32) : (MC_6 L xs).1.length = 6 := by rw [KC_6]; rfl
def RC_6 : Nat → Nat → Option Nat := g_up RC_5 4 0 (some 5)
theorem RR_6 (L : Nat) (xs : Nat → Int32) : (MC_6 L xs).2.2.2 = RC_6 := mR_Rr (RR_5 L xs)
theorem II_6 (L : Nat) (xs : Nat → Int32) : ∀ i, i ≠ 0 → (MC_6 L xs).2.1 i = IC_5 i := mR_In (II_5 L xs)
theorem LL_6 (L : Nat) (xs : Nat → Int32) : ∀ i k, (MC_6 L xs).2.2.1 i k = 0 := mR_Ln (LL_5 L xs)
def MC_7 (L : Nat) (xs : Nat → Int32) : gM := nw (5, 0) (MC_6 L xs)
theorem NW_7 (L : Nat) (xs : Nat → Int32) : nw (5, 0) (MC_6 L xs) = MC_7 L xs := rfl
theorem KC_7 (L : Nat) (xs : Nat → Int32) : (MC_7 L xs).1 = (g_K0 L).take 7 := (nw_K _ (MC_6 L xs)).trans (by rw [KC_6]; rfl)
theorem LN_7 (L : Nat) (xs : Nat → Int32) : (MC_7 L xs).1.length = 7 := by rw [KC_7]; rfl
def RC_7 : Nat → Nat → Option Nat := g_row RC_6 6 (fun _ => none)
theorem RR_7 (L : Nat) (xs : Nat → Int32) : (MC_7 L xs).2.2.2 = RC_7 := nw_R (LN_6 L xs) (RR_6 L xs)
def IC_7 : Nat → Nat → Int32 := g_row IC_5 6 (fun _ => 0)
theorem II_7 (L : Nat) (xs : Nat → Int32) : ∀ i, i ≠ 0 → (MC_7 L xs).2.1 i = IC_7 i := nw_I (LN_6 L xs) (II_6 L xs)
theorem LL_7 (L : Nat) (xs : Nat → Int32) : ∀ i k, (MC_7 L xs).2.2.1 i k = 0 := nw_L (LL_6 L xs)
def MC_8 (L : Nat) (xs : Nat → Int32) : gM := nw (21, 32) (MC_7 L xs)
theorem NW_8 (L : Nat) (xs : Nat → Int32) : nw (21, 32) (MC_7 L xs) = MC_8 L xs := rfl
theorem KC_8 (L : Nat) (xs : Nat → Int32) : (MC_8 L xs).1 = (g_K0 L).take 8 := (nw_K _ (MC_7 L xs)).trans (by rw [KC_7]; rfl)
theorem LN_8 (L : Nat) (xs : Nat → Int32) : (MC_8 L xs).1.length = 8 := by rw [KC_8]; rfl
def RC_8 : Nat → Nat → Option Nat := g_row RC_7 7 (fun _ => none)
theorem RR_8 (L : Nat) (xs : Nat → Int32) : (MC_8 L xs).2.2.2 = RC_8 := nw_R (LN_7 L xs) (RR_7 L xs)
def IC_8 : Nat → Nat → Int32 := g_row IC_7 7 (fun _ => 0)
theorem II_8 (L : Nat) (xs : Nat → Int32) : ∀ i, i ≠ 0 → (MC_8 L xs).2.1 i = IC_8 i := nw_I (LN_7 L xs) (II_7 L xs)
theorem LL_8 (L : Nat) (xs : Nat → Int32) : ∀ i k, (MC_8 L xs).2.2.1 i k = 0 := nw_L (LL_7 L xs)
def MC_9 (L : Nat) (xs : Nat → Int32) : gM := mR (MC_8 L xs) 6 0 (some 7)
theorem ST_9 (L : Nat) (xs : Nat → Int32) : pR 5 (MC_8 L xs) (some 6) 0 (some 7) = some (MC_9 L xs) := pR_of (by unfold g_k; rw [KC_8]; rfl)
theorem KC_9 (L : Nat) (xs : Nat → Int32) : (MC_9 L xs).1 = (g_K0 L).take 8 := (mR_K (MC_8 L xs) _ _ _).trans (KC_8 L xs)
theorem LN_9 (L : Nat) (xs : Nat → Int32) : (MC_9 L xs).1.length = 8 := by rw [KC_9]; rfl
def RC_9 : Nat → Nat → Option Nat := g_up RC_8 6 0 (some 7)
theorem RR_9 (L : Nat) (xs : Nat → Int32) : (MC_9 L xs).2.2.2 = RC_9 := mR_Rr (RR_8 L xs)
theorem II_9 (L : Nat) (xs : Nat → Int32) : ∀ i, i ≠ 0 → (MC_9 L xs).2.1 i = IC_8 i := mR_In (II_8 L xs)
theorem LL_9 (L : Nat) (xs : Nat → Int32) : ∀ i k, (MC_9 L xs).2.2.1 i k = 0 := mR_Ln (LL_8 L xs)
def MC_10 (L : Nat) (xs : Nat → Int32) : gM := nw (21, 14) (MC_9 L xs)
theorem NW_10 (L : Nat) (xs : Nat → Int32) : nw (21, 14) (MC_9 L xs) = MC_10 L xs := rfl
theorem KC_10 (L : Nat) (xs : Nat → Int32) : (MC_10 L xs).1 = (g_K0 L).take 9 := (nw_K _ (MC_9 L xs)).trans (by rw [KC_9]; rfl)
theorem LN_10 (L : Nat) (xs : Nat → Int32) : (MC_10 L xs).1.length = 9 := by rw [KC_10]; rfl
def RC_10 : Nat → Nat → Option Nat := g_row RC_9 8 (fun _ => none)
theorem RR_10 (L : Nat) (xs : Nat → Int32) : (MC_10 L xs).2.2.2 = RC_10 := nw_R (LN_9 L xs) (RR_9 L xs)
def IC_10 : Nat → Nat → Int32 := g_row IC_8 8 (fun _ => 0)
theorem II_10 (L : Nat) (xs : Nat → Int32) : ∀ i, i ≠ 0 → (MC_10 L xs).2.1 i = IC_10 i := nw_I (LN_9 L xs) (II_9 L xs)
theorem LL_10 (L : Nat) (xs : Nat → Int32) : ∀ i k, (MC_10 L xs).2.2.1 i k = 0 := nw_L (LL_9 L xs)
def MC_11 (L : Nat) (xs : Nat → Int32) : gM := mR (MC_10 L xs) 6 1 (some 8)
theorem ST_11 (L : Nat) (xs : Nat → Int32) : pR 5 (MC_10 L xs) (some 6) 1 (some 8) = some (MC_11 L xs) := pR_of (by unfold g_k; rw [KC_10]; rfl)
theorem KC_11 (L : Nat) (xs : Nat → Int32) : (MC_11 L xs).1 = (g_K0 L).take 9 := (mR_K (MC_10 L xs) _ _ _).trans (KC_10 L xs)
theorem LN_11 (L : Nat) (xs : Nat → Int32) : (MC_11 L xs).1.length = 9 := by rw [KC_11]; rfl
def RC_11 : Nat → Nat → Option Nat := g_up RC_10 6 1 (some 8)
theorem RR_11 (L : Nat) (xs : Nat → Int32) : (MC_11 L xs).2.2.2 = RC_11 := mR_Rr (RR_10 L xs)
theorem II_11 (L : Nat) (xs : Nat → Int32) : ∀ i, i ≠ 0 → (MC_11 L xs).2.1 i = IC_10 i := mR_In (II_10 L xs)
theorem LL_11 (L : Nat) (xs : Nat → Int32) : ∀ i k, (MC_11 L xs).2.2.1 i k = 0 := mR_Ln (LL_10 L xs)
def MC_12 (L : Nat) (xs : Nat → Int32) : gM := mI (MC_11 L xs) 6 2 (0 : Int32)
theorem ST_12 (L : Nat) (xs : Nat → Int32) : pI 5 (MC_11 L xs) (some 6) 2 (0 : Int32) = some (MC_12 L xs) := pI_of (by unfold g_k; rw [KC_11]; rfl)
theorem KC_12 (L : Nat) (xs : Nat → Int32) : (MC_12 L xs).1 = (g_K0 L).take 9 := (mI_K (MC_11 L xs) _ _ _).trans (KC_11 L xs)
theorem LN_12 (L : Nat) (xs : Nat → Int32) : (MC_12 L xs).1.length = 9 := by rw [KC_12]; rfl
theorem RR_12 (L : Nat) (xs : Nat → Int32) : (MC_12 L xs).2.2.2 = RC_11 := (mI_Rn (MC_11 L xs) _ _ _).trans (RR_11 L xs)
def IC_12 : Nat → Nat → Int32 := g_up IC_10 6 2 (0)
theorem II_12 (L : Nat) (xs : Nat → Int32) : ∀ i, i ≠ 0 → (MC_12 L xs).2.1 i = IC_12 i := mI_I (II_11 L xs)
theorem LL_12 (L : Nat) (xs : Nat → Int32) : ∀ i k, (MC_12 L xs).2.2.1 i k = 0 := mI_Ln (LL_11 L xs)
def MC_13 (L : Nat) (xs : Nat → Int32) : gM := mR (MC_12 L xs) 4 1 (some 6)
theorem ST_13 (L : Nat) (xs : Nat → Int32) : pR 10 (MC_12 L xs) (some 4) 1 (some 6) = some (MC_13 L xs) := pR_of (by unfold g_k; rw [KC_12]; rfl)
theorem KC_13 (L : Nat) (xs : Nat → Int32) : (MC_13 L xs).1 = (g_K0 L).take 9 := (mR_K (MC_12 L xs) _ _ _).trans (KC_12 L xs)
theorem LN_13 (L : Nat) (xs : Nat → Int32) : (MC_13 L xs).1.length = 9 := by rw [KC_13]; rfl
def RC_13 : Nat → Nat → Option Nat := g_up RC_11 4 1 (some 6)
theorem RR_13 (L : Nat) (xs : Nat → Int32) : (MC_13 L xs).2.2.2 = RC_13 := mR_Rr (RR_12 L xs)
theorem II_13 (L : Nat) (xs : Nat → Int32) : ∀ i, i ≠ 0 → (MC_13 L xs).2.1 i = IC_12 i := mR_In (II_12 L xs)
theorem LL_13 (L : Nat) (xs : Nat → Int32) : ∀ i k, (MC_13 L xs).2.2.1 i k = 0 := mR_Ln (LL_12 L xs)
def MC_14 (L : Nat) (xs : Nat → Int32) : gM := mR (MC_13 L xs) 2 4 (some 4)
theorem ST_14 (L : Nat) (xs : Nat → Int32) : pR 11 (MC_13 L xs) (some 2) 4 (some 4) = some (MC_14 L xs) := pR_of (by unfold g_k; rw [KC_13]; rfl)
theorem KC_14 (L : Nat) (xs : Nat → Int32) : (MC_14 L xs).1 = (g_K0 L).take 9 := (mR_K (MC_13 L xs) _ _ _).trans (KC_13 L xs)
theorem LN_14 (L : Nat) (xs : Nat → Int32) : (MC_14 L xs).1.length = 9 := by rw [KC_14]; rfl
def RC_14 : Nat → Nat → Option Nat := g_up RC_13 2 4 (some 4)
theorem RR_14 (L : Nat) (xs : Nat → Int32) : (MC_14 L xs).2.2.2 = RC_14 := mR_Rr (RR_13 L xs)
theorem II_14 (L : Nat) (xs : Nat → Int32) : ∀ i, i ≠ 0 → (MC_14 L xs).2.1 i = IC_12 i := mR_In (II_13 L xs)
theorem LL_14 (L : Nat) (xs : Nat → Int32) : ∀ i k, (MC_14 L xs).2.2.1 i k = 0 := mR_Ln (LL_13 L xs)
def MC_15 (L : Nat) (xs : Nat → Int32) : gM := nw (8, 0) (MC_14 L xs)
theorem NW_15 (L : Nat) (xs : Nat → Int32) : nw (8, 0) (MC_14 L xs) = MC_15 L xs := rfl
theorem KC_15 (L : Nat) (xs : Nat → Int32) : (MC_15 L xs).1 = (g_K0 L).take 10 := (nw_K _ (MC_14 L xs)).trans (by rw [KC_14]; rfl)
theorem LN_15 (L : Nat) (xs : Nat → Int32) : (MC_15 L xs).1.length = 10 := by rw [KC_15]; rfl
def RC_15 : Nat → Nat → Option Nat := g_row RC_14 9 (fun _ => none)
theorem RR_15 (L : Nat) (xs : Nat → Int32) : (MC_15 L xs).2.2.2 = RC_15 := nw_R (LN_14 L xs) (RR_14 L xs)
def IC_15 : Nat → Nat → Int32 := g_row IC_12 9 (fun _ => 0)
theorem II_15 (L : Nat) (xs : Nat → Int32) : ∀ i, i ≠ 0 → (MC_15 L xs).2.1 i = IC_15 i := nw_I (LN_14 L xs) (II_14 L xs)
theorem LL_15 (L : Nat) (xs : Nat → Int32) : ∀ i k, (MC_15 L xs).2.2.1 i k = 0 := nw_L (LL_14 L xs)
def MC_16 (L : Nat) (xs : Nat → Int32) : gM := nw (20, 49) (MC_15 L xs)
theorem NW_16 (L : Nat) (xs : Nat → Int32) : nw (20, 49) (MC_15 L xs) = MC_16 L xs := rfl
theorem KC_16 (L : Nat) (xs : Nat → Int32) : (MC_16 L xs).1 = (g_K0 L).take 11 := (nw_K _ (MC_15 L xs)).trans (by rw [KC_15]; rfl)
theorem LN_16 (L : Nat) (xs : Nat → Int32) : (MC_16 L xs).1.length = 11 := by rw [KC_16]; rfl
def RC_16 : Nat → Nat → Option Nat := g_row RC_15 10 (fun _ => none)
theorem RR_16 (L : Nat) (xs : Nat → Int32) : (MC_16 L xs).2.2.2 = RC_16 := nw_R (LN_15 L xs) (RR_15 L xs)
def IC_16 : Nat → Nat → Int32 := g_row IC_15 10 (fun _ => 0)
theorem II_16 (L : Nat) (xs : Nat → Int32) : ∀ i, i ≠ 0 → (MC_16 L xs).2.1 i = IC_16 i := nw_I (LN_15 L xs) (II_15 L xs)
theorem LL_16 (L : Nat) (xs : Nat → Int32) : ∀ i k, (MC_16 L xs).2.2.1 i k = 0 := nw_L (LL_15 L xs)
def MC_17 (L : Nat) (xs : Nat → Int32) : gM := mR (MC_16 L xs) 9 0 (some 10)
theorem ST_17 (L : Nat) (xs : Nat → Int32) : pR 8 (MC_16 L xs) (some 9) 0 (some 10) = some (MC_17 L xs) := pR_of (by unfold g_k; rw [KC_16]; rfl)
theorem KC_17 (L : Nat) (xs : Nat → Int32) : (MC_17 L xs).1 = (g_K0 L).take 11 := (mR_K (MC_16 L xs) _ _ _).trans (KC_16 L xs)
theorem LN_17 (L : Nat) (xs : Nat → Int32) : (MC_17 L xs).1.length = 11 := by rw [KC_17]; rfl
def RC_17 : Nat → Nat → Option Nat := g_up RC_16 9 0 (some 10)
theorem RR_17 (L : Nat) (xs : Nat → Int32) : (MC_17 L xs).2.2.2 = RC_17 := mR_Rr (RR_16 L xs)
theorem II_17 (L : Nat) (xs : Nat → Int32) : ∀ i, i ≠ 0 → (MC_17 L xs).2.1 i = IC_16 i := mR_In (II_16 L xs)
theorem LL_17 (L : Nat) (xs : Nat → Int32) : ∀ i k, (MC_17 L xs).2.2.1 i k = 0 := mR_Ln (LL_16 L xs)
def MC_18 (L : Nat) (xs : Nat → Int32) : gM := nw (20, 49) (MC_17 L xs)
theorem NW_18 (L : Nat) (xs : Nat → Int32) : nw (20, 49) (MC_17 L xs) = MC_18 L xs := rfl
theorem KC_18 (L : Nat) (xs : Nat → Int32) : (MC_18 L xs).1 = (g_K0 L).take 12 := (nw_K _ (MC_17 L xs)).trans (by rw [KC_17]; rfl)
theorem LN_18 (L : Nat) (xs : Nat → Int32) : (MC_18 L xs).1.length = 12 := by rw [KC_18]; rfl
def RC_18 : Nat → Nat → Option Nat := g_row RC_17 11 (fun _ => none)
theorem RR_18 (L : Nat) (xs : Nat → Int32) : (MC_18 L xs).2.2.2 = RC_18 := nw_R (LN_17 L xs) (RR_17 L xs)
def IC_18 : Nat → Nat → Int32 := g_row IC_16 11 (fun _ => 0)
theorem II_18 (L : Nat) (xs : Nat → Int32) : ∀ i, i ≠ 0 → (MC_18 L xs).2.1 i = IC_18 i := nw_I (LN_17 L xs) (II_17 L xs)
theorem LL_18 (L : Nat) (xs : Nat → Int32) : ∀ i k, (MC_18 L xs).2.2.1 i k = 0 := nw_L (LL_17 L xs)
def MC_19 (L : Nat) (xs : Nat → Int32) : gM := mR (MC_18 L xs) 9 1 (some 11)
theorem ST_19 (L : Nat) (xs : Nat → Int32) : pR 8 (MC_18 L xs) (some 9) 1 (some 11) = some (MC_19 L xs) := pR_of (by unfold g_k; rw [KC_18]; rfl)
theorem KC_19 (L : Nat) (xs : Nat → Int32) : (MC_19 L xs).1 = (g_K0 L).take 12 := (mR_K (MC_18 L xs) _ _ _).trans (KC_18 L xs)
theorem LN_19 (L : Nat) (xs : Nat → Int32) : (MC_19 L xs).1.length = 12 := by rw [KC_19]; rfl
def RC_19 : Nat → Nat → Option Nat := g_up RC_18 9 1 (some 11)
theorem RR_19 (L : Nat) (xs : Nat → Int32) : (MC_19 L xs).2.2.2 = RC_19 := mR_Rr (RR_18 L xs)
theorem II_19 (L : Nat) (xs : Nat → Int32) : ∀ i, i ≠ 0 → (MC_19 L xs).2.1 i = IC_18 i := mR_In (II_18 L xs)
theorem LL_19 (L : Nat) (xs : Nat → Int32) : ∀ i k, (MC_19 L xs).2.2.1 i k = 0 := mR_Ln (LL_18 L xs)
def MC_20 (L : Nat) (xs : Nat → Int32) : gM := nw (20, 7) (MC_19 L xs)
theorem NW_20 (L : Nat) (xs : Nat → Int32) : nw (20, 7) (MC_19 L xs) = MC_20 L xs := rfl
theorem KC_20 (L : Nat) (xs : Nat → Int32) : (MC_20 L xs).1 = (g_K0 L).take 13 := (nw_K _ (MC_19 L xs)).trans (by rw [KC_19]; rfl)
theorem LN_20 (L : Nat) (xs : Nat → Int32) : (MC_20 L xs).1.length = 13 := by rw [KC_20]; rfl
def RC_20 : Nat → Nat → Option Nat := g_row RC_19 12 (fun _ => none)
theorem RR_20 (L : Nat) (xs : Nat → Int32) : (MC_20 L xs).2.2.2 = RC_20 := nw_R (LN_19 L xs) (RR_19 L xs)
def IC_20 : Nat → Nat → Int32 := g_row IC_18 12 (fun _ => 0)
theorem II_20 (L : Nat) (xs : Nat → Int32) : ∀ i, i ≠ 0 → (MC_20 L xs).2.1 i = IC_20 i := nw_I (LN_19 L xs) (II_19 L xs)
theorem LL_20 (L : Nat) (xs : Nat → Int32) : ∀ i k, (MC_20 L xs).2.2.1 i k = 0 := nw_L (LL_19 L xs)
def MC_21 (L : Nat) (xs : Nat → Int32) : gM := mR (MC_20 L xs) 9 2 (some 12)
theorem ST_21 (L : Nat) (xs : Nat → Int32) : pR 8 (MC_20 L xs) (some 9) 2 (some 12) = some (MC_21 L xs) := pR_of (by unfold g_k; rw [KC_20]; rfl)
theorem KC_21 (L : Nat) (xs : Nat → Int32) : (MC_21 L xs).1 = (g_K0 L).take 13 := (mR_K (MC_20 L xs) _ _ _).trans (KC_20 L xs)
theorem LN_21 (L : Nat) (xs : Nat → Int32) : (MC_21 L xs).1.length = 13 := by rw [KC_21]; rfl
def RC_21 : Nat → Nat → Option Nat := g_up RC_20 9 2 (some 12)
theorem RR_21 (L : Nat) (xs : Nat → Int32) : (MC_21 L xs).2.2.2 = RC_21 := mR_Rr (RR_20 L xs)
theorem II_21 (L : Nat) (xs : Nat → Int32) : ∀ i, i ≠ 0 → (MC_21 L xs).2.1 i = IC_20 i := mR_In (II_20 L xs)
theorem LL_21 (L : Nat) (xs : Nat → Int32) : ∀ i k, (MC_21 L xs).2.2.1 i k = 0 := mR_Ln (LL_20 L xs)
def MC_22 (L : Nat) (xs : Nat → Int32) : gM := nw (20, 7) (MC_21 L xs)
theorem NW_22 (L : Nat) (xs : Nat → Int32) : nw (20, 7) (MC_21 L xs) = MC_22 L xs := rfl
theorem KC_22 (L : Nat) (xs : Nat → Int32) : (MC_22 L xs).1 = (g_K0 L).take 14 := (nw_K _ (MC_21 L xs)).trans (by rw [KC_21]; rfl)
theorem LN_22 (L : Nat) (xs : Nat → Int32) : (MC_22 L xs).1.length = 14 := by rw [KC_22]; rfl
def RC_22 : Nat → Nat → Option Nat := g_row RC_21 13 (fun _ => none)
theorem RR_22 (L : Nat) (xs : Nat → Int32) : (MC_22 L xs).2.2.2 = RC_22 := nw_R (LN_21 L xs) (RR_21 L xs)
def IC_22 : Nat → Nat → Int32 := g_row IC_20 13 (fun _ => 0)
theorem II_22 (L : Nat) (xs : Nat → Int32) : ∀ i, i ≠ 0 → (MC_22 L xs).2.1 i = IC_22 i := nw_I (LN_21 L xs) (II_21 L xs)
theorem LL_22 (L : Nat) (xs : Nat → Int32) : ∀ i k, (MC_22 L xs).2.2.1 i k = 0 := nw_L (LL_21 L xs)
def MC_23 (L : Nat) (xs : Nat → Int32) : gM := mR (MC_22 L xs) 9 3 (some 13)
theorem ST_23 (L : Nat) (xs : Nat → Int32) : pR 8 (MC_22 L xs) (some 9) 3 (some 13) = some (MC_23 L xs) := pR_of (by unfold g_k; rw [KC_22]; rfl)
theorem KC_23 (L : Nat) (xs : Nat → Int32) : (MC_23 L xs).1 = (g_K0 L).take 14 := (mR_K (MC_22 L xs) _ _ _).trans (KC_22 L xs)
theorem LN_23 (L : Nat) (xs : Nat → Int32) : (MC_23 L xs).1.length = 14 := by rw [KC_23]; rfl
def RC_23 : Nat → Nat → Option Nat := g_up RC_22 9 3 (some 13)
theorem RR_23 (L : Nat) (xs : Nat → Int32) : (MC_23 L xs).2.2.2 = RC_23 := mR_Rr (RR_22 L xs)
theorem II_23 (L : Nat) (xs : Nat → Int32) : ∀ i, i ≠ 0 → (MC_23 L xs).2.1 i = IC_22 i := mR_In (II_22 L xs)
theorem LL_23 (L : Nat) (xs : Nat → Int32) : ∀ i k, (MC_23 L xs).2.2.1 i k = 0 := mR_Ln (LL_22 L xs)
def MC_24 (L : Nat) (xs : Nat → Int32) : gM := mI (MC_23 L xs) 9 4 (0 : Int32)
theorem ST_24 (L : Nat) (xs : Nat → Int32) : pI 8 (MC_23 L xs) (some 9) 4 (0 : Int32) = some (MC_24 L xs) := pI_of (by unfold g_k; rw [KC_23]; rfl)
theorem KC_24 (L : Nat) (xs : Nat → Int32) : (MC_24 L xs).1 = (g_K0 L).take 14 := (mI_K (MC_23 L xs) _ _ _).trans (KC_23 L xs)
theorem LN_24 (L : Nat) (xs : Nat → Int32) : (MC_24 L xs).1.length = 14 := by rw [KC_24]; rfl
theorem RR_24 (L : Nat) (xs : Nat → Int32) : (MC_24 L xs).2.2.2 = RC_23 := (mI_Rn (MC_23 L xs) _ _ _).trans (RR_23 L xs)
def IC_24 : Nat → Nat → Int32 := g_up IC_22 9 4 (0)
theorem II_24 (L : Nat) (xs : Nat → Int32) : ∀ i, i ≠ 0 → (MC_24 L xs).2.1 i = IC_24 i := mI_I (II_23 L xs)
theorem LL_24 (L : Nat) (xs : Nat → Int32) : ∀ i k, (MC_24 L xs).2.2.1 i k = 0 := mI_Ln (LL_23 L xs)
def MC_25 (L : Nat) (xs : Nat → Int32) : gM := mI (MC_24 L xs) 9 5 (0 : Int32)
theorem ST_25 (L : Nat) (xs : Nat → Int32) : pI 8 (MC_24 L xs) (some 9) 5 (0 : Int32) = some (MC_25 L xs) := pI_of (by unfold g_k; rw [KC_24]; rfl)
theorem KC_25 (L : Nat) (xs : Nat → Int32) : (MC_25 L xs).1 = (g_K0 L).take 14 := (mI_K (MC_24 L xs) _ _ _).trans (KC_24 L xs)
theorem LN_25 (L : Nat) (xs : Nat → Int32) : (MC_25 L xs).1.length = 14 := by rw [KC_25]; rfl
theorem RR_25 (L : Nat) (xs : Nat → Int32) : (MC_25 L xs).2.2.2 = RC_23 := (mI_Rn (MC_24 L xs) _ _ _).trans (RR_24 L xs)
def IC_25 : Nat → Nat → Int32 := g_up IC_24 9 5 (0)
theorem II_25 (L : Nat) (xs : Nat → Int32) : ∀ i, i ≠ 0 → (MC_25 L xs).2.1 i = IC_25 i := mI_I (II_24 L xs)
theorem LL_25 (L : Nat) (xs : Nat → Int32) : ∀ i k, (MC_25 L xs).2.2.1 i k = 0 := mI_Ln (LL_24 L xs)
def MC_26 (L : Nat) (xs : Nat → Int32) : gM := mI (MC_25 L xs) 9 6 (0 : Int32)
theorem ST_26 (L : Nat) (xs : Nat → Int32) : pI 8 (MC_25 L xs) (some 9) 6 (0 : Int32) = some (MC_26 L xs) := pI_of (by unfold g_k; rw [KC_25]; rfl)
theorem KC_26 (L : Nat) (xs : Nat → Int32) : (MC_26 L xs).1 = (g_K0 L).take 14 := (mI_K (MC_25 L xs) _ _ _).trans (KC_25 L xs)
theorem LN_26 (L : Nat) (xs : Nat → Int32) : (MC_26 L xs).1.length = 14 := by rw [KC_26]; rfl
theorem RR_26 (L : Nat) (xs : Nat → Int32) : (MC_26 L xs).2.2.2 = RC_23 := (mI_Rn (MC_25 L xs) _ _ _).trans (RR_25 L xs)
def IC_26 : Nat → Nat → Int32 := g_up IC_25 9 6 (0)
theorem II_26 (L : Nat) (xs : Nat → Int32) : ∀ i, i ≠ 0 → (MC_26 L xs).2.1 i = IC_26 i := mI_I (II_25 L xs)
theorem LL_26 (L : Nat) (xs : Nat → Int32) : ∀ i k, (MC_26 L xs).2.2.1 i k = 0 := mI_Ln (LL_25 L xs)
def MC_27 (L : Nat) (xs : Nat → Int32) : gM := mR (MC_26 L xs) 2 5 (some 9)
theorem ST_27 (L : Nat) (xs : Nat → Int32) : pR 11 (MC_26 L xs) (some 2) 5 (some 9) = some (MC_27 L xs) := pR_of (by unfold g_k; rw [KC_26]; rfl)
theorem KC_27 (L : Nat) (xs : Nat → Int32) : (MC_27 L xs).1 = (g_K0 L).take 14 := (mR_K (MC_26 L xs) _ _ _).trans (KC_26 L xs)
theorem LN_27 (L : Nat) (xs : Nat → Int32) : (MC_27 L xs).1.length = 14 := by rw [KC_27]; rfl
def RC_27 : Nat → Nat → Option Nat := g_up RC_23 2 5 (some 9)
theorem RR_27 (L : Nat) (xs : Nat → Int32) : (MC_27 L xs).2.2.2 = RC_27 := mR_Rr (RR_26 L xs)
theorem II_27 (L : Nat) (xs : Nat → Int32) : ∀ i, i ≠ 0 → (MC_27 L xs).2.1 i = IC_26 i := mR_In (II_26 L xs)
theorem LL_27 (L : Nat) (xs : Nat → Int32) : ∀ i k, (MC_27 L xs).2.2.1 i k = 0 := mR_Ln (LL_26 L xs)
def MC_28 (L : Nat) (xs : Nat → Int32) : gM := nw (8, 0) (MC_27 L xs)
theorem NW_28 (L : Nat) (xs : Nat → Int32) : nw (8, 0) (MC_27 L xs) = MC_28 L xs := rfl
theorem KC_28 (L : Nat) (xs : Nat → Int32) : (MC_28 L xs).1 = (g_K0 L).take 15 := (nw_K _ (MC_27 L xs)).trans (by rw [KC_27]; rfl)
theorem LN_28 (L : Nat) (xs : Nat → Int32) : (MC_28 L xs).1.length = 15 := by rw [KC_28]; rfl
def RC_28 : Nat → Nat → Option Nat := g_row RC_27 14 (fun _ => none)
theorem RR_28 (L : Nat) (xs : Nat → Int32) : (MC_28 L xs).2.2.2 = RC_28 := nw_R (LN_27 L xs) (RR_27 L xs)
def IC_28 : Nat → Nat → Int32 := g_row IC_26 14 (fun _ => 0)
theorem II_28 (L : Nat) (xs : Nat → Int32) : ∀ i, i ≠ 0 → (MC_28 L xs).2.1 i = IC_28 i := nw_I (LN_27 L xs) (II_27 L xs)
theorem LL_28 (L : Nat) (xs : Nat → Int32) : ∀ i k, (MC_28 L xs).2.2.1 i k = 0 := nw_L (LL_27 L xs)
def MC_29 (L : Nat) (xs : Nat → Int32) : gM := nw (20, 49) (MC_28 L xs)
theorem NW_29 (L : Nat) (xs : Nat → Int32) : nw (20, 49) (MC_28 L xs) = MC_29 L xs := rfl
theorem KC_29 (L : Nat) (xs : Nat → Int32) : (MC_29 L xs).1 = (g_K0 L).take 16 := (nw_K _ (MC_28 L xs)).trans (by rw [KC_28]; rfl)
theorem LN_29 (L : Nat) (xs : Nat → Int32) : (MC_29 L xs).1.length = 16 := by rw [KC_29]; rfl
def RC_29 : Nat → Nat → Option Nat := g_row RC_28 15 (fun _ => none)
theorem RR_29 (L : Nat) (xs : Nat → Int32) : (MC_29 L xs).2.2.2 = RC_29 := nw_R (LN_28 L xs) (RR_28 L xs)
def IC_29 : Nat → Nat → Int32 := g_row IC_28 15 (fun _ => 0)
theorem II_29 (L : Nat) (xs : Nat → Int32) : ∀ i, i ≠ 0 → (MC_29 L xs).2.1 i = IC_29 i := nw_I (LN_28 L xs) (II_28 L xs)
theorem LL_29 (L : Nat) (xs : Nat → Int32) : ∀ i k, (MC_29 L xs).2.2.1 i k = 0 := nw_L (LL_28 L xs)
def MC_30 (L : Nat) (xs : Nat → Int32) : gM := mR (MC_29 L xs) 14 0 (some 15)
theorem ST_30 (L : Nat) (xs : Nat → Int32) : pR 8 (MC_29 L xs) (some 14) 0 (some 15) = some (MC_30 L xs) := pR_of (by unfold g_k; rw [KC_29]; rfl)
theorem KC_30 (L : Nat) (xs : Nat → Int32) : (MC_30 L xs).1 = (g_K0 L).take 16 := (mR_K (MC_29 L xs) _ _ _).trans (KC_29 L xs)
theorem LN_30 (L : Nat) (xs : Nat → Int32) : (MC_30 L xs).1.length = 16 := by rw [KC_30]; rfl
def RC_30 : Nat → Nat → Option Nat := g_up RC_29 14 0 (some 15)
theorem RR_30 (L : Nat) (xs : Nat → Int32) : (MC_30 L xs).2.2.2 = RC_30 := mR_Rr (RR_29 L xs)
theorem II_30 (L : Nat) (xs : Nat → Int32) : ∀ i, i ≠ 0 → (MC_30 L xs).2.1 i = IC_29 i := mR_In (II_29 L xs)
theorem LL_30 (L : Nat) (xs : Nat → Int32) : ∀ i k, (MC_30 L xs).2.2.1 i k = 0 := mR_Ln (LL_29 L xs)
def MC_31 (L : Nat) (xs : Nat → Int32) : gM := nw (20, 49) (MC_30 L xs)
theorem NW_31 (L : Nat) (xs : Nat → Int32) : nw (20, 49) (MC_30 L xs) = MC_31 L xs := rfl
theorem KC_31 (L : Nat) (xs : Nat → Int32) : (MC_31 L xs).1 = (g_K0 L).take 17 := (nw_K _ (MC_30 L xs)).trans (by rw [KC_30]; rfl)
theorem LN_31 (L : Nat) (xs : Nat → Int32) : (MC_31 L xs).1.length = 17 := by rw [KC_31]; rfl
def RC_31 : Nat → Nat → Option Nat := g_row RC_30 16 (fun _ => none)
theorem RR_31 (L : Nat) (xs : Nat → Int32) : (MC_31 L xs).2.2.2 = RC_31 := nw_R (LN_30 L xs) (RR_30 L xs)
def IC_31 : Nat → Nat → Int32 := g_row IC_29 16 (fun _ => 0)
theorem II_31 (L : Nat) (xs : Nat → Int32) : ∀ i, i ≠ 0 → (MC_31 L xs).2.1 i = IC_31 i := nw_I (LN_30 L xs) (II_30 L xs)
theorem LL_31 (L : Nat) (xs : Nat → Int32) : ∀ i k, (MC_31 L xs).2.2.1 i k = 0 := nw_L (LL_30 L xs)
def MC_32 (L : Nat) (xs : Nat → Int32) : gM := mR (MC_31 L xs) 14 1 (some 16)
theorem ST_32 (L : Nat) (xs : Nat → Int32) : pR 8 (MC_31 L xs) (some 14) 1 (some 16) = some (MC_32 L xs) := pR_of (by unfold g_k; rw [KC_31]; rfl)
theorem KC_32 (L : Nat) (xs : Nat → Int32) : (MC_32 L xs).1 = (g_K0 L).take 17 := (mR_K (MC_31 L xs) _ _ _).trans (KC_31 L xs)
theorem LN_32 (L : Nat) (xs : Nat → Int32) : (MC_32 L xs).1.length = 17 := by rw [KC_32]; rfl
def RC_32 : Nat → Nat → Option Nat := g_up RC_31 14 1 (some 16)
theorem RR_32 (L : Nat) (xs : Nat → Int32) : (MC_32 L xs).2.2.2 = RC_32 := mR_Rr (RR_31 L xs)
theorem II_32 (L : Nat) (xs : Nat → Int32) : ∀ i, i ≠ 0 → (MC_32 L xs).2.1 i = IC_31 i := mR_In (II_31 L xs)
theorem LL_32 (L : Nat) (xs : Nat → Int32) : ∀ i k, (MC_32 L xs).2.2.1 i k = 0 := mR_Ln (LL_31 L xs)
def MC_33 (L : Nat) (xs : Nat → Int32) : gM := nw (20, 7) (MC_32 L xs)
theorem NW_33 (L : Nat) (xs : Nat → Int32) : nw (20, 7) (MC_32 L xs) = MC_33 L xs := rfl
theorem KC_33 (L : Nat) (xs : Nat → Int32) : (MC_33 L xs).1 = (g_K0 L).take 18 := (nw_K _ (MC_32 L xs)).trans (by rw [KC_32]; rfl)
theorem LN_33 (L : Nat) (xs : Nat → Int32) : (MC_33 L xs).1.length = 18 := by rw [KC_33]; rfl
def RC_33 : Nat → Nat → Option Nat := g_row RC_32 17 (fun _ => none)
theorem RR_33 (L : Nat) (xs : Nat → Int32) : (MC_33 L xs).2.2.2 = RC_33 := nw_R (LN_32 L xs) (RR_32 L xs)
def IC_33 : Nat → Nat → Int32 := g_row IC_31 17 (fun _ => 0)
theorem II_33 (L : Nat) (xs : Nat → Int32) : ∀ i, i ≠ 0 → (MC_33 L xs).2.1 i = IC_33 i := nw_I (LN_32 L xs) (II_32 L xs)
theorem LL_33 (L : Nat) (xs : Nat → Int32) : ∀ i k, (MC_33 L xs).2.2.1 i k = 0 := nw_L (LL_32 L xs)
def MC_34 (L : Nat) (xs : Nat → Int32) : gM := mR (MC_33 L xs) 14 2 (some 17)
theorem ST_34 (L : Nat) (xs : Nat → Int32) : pR 8 (MC_33 L xs) (some 14) 2 (some 17) = some (MC_34 L xs) := pR_of (by unfold g_k; rw [KC_33]; rfl)
theorem KC_34 (L : Nat) (xs : Nat → Int32) : (MC_34 L xs).1 = (g_K0 L).take 18 := (mR_K (MC_33 L xs) _ _ _).trans (KC_33 L xs)
theorem LN_34 (L : Nat) (xs : Nat → Int32) : (MC_34 L xs).1.length = 18 := by rw [KC_34]; rfl
def RC_34 : Nat → Nat → Option Nat := g_up RC_33 14 2 (some 17)
theorem RR_34 (L : Nat) (xs : Nat → Int32) : (MC_34 L xs).2.2.2 = RC_34 := mR_Rr (RR_33 L xs)
theorem II_34 (L : Nat) (xs : Nat → Int32) : ∀ i, i ≠ 0 → (MC_34 L xs).2.1 i = IC_33 i := mR_In (II_33 L xs)
theorem LL_34 (L : Nat) (xs : Nat → Int32) : ∀ i k, (MC_34 L xs).2.2.1 i k = 0 := mR_Ln (LL_33 L xs)
def MC_35 (L : Nat) (xs : Nat → Int32) : gM := nw (20, 7) (MC_34 L xs)
theorem NW_35 (L : Nat) (xs : Nat → Int32) : nw (20, 7) (MC_34 L xs) = MC_35 L xs := rfl
theorem KC_35 (L : Nat) (xs : Nat → Int32) : (MC_35 L xs).1 = (g_K0 L).take 19 := (nw_K _ (MC_34 L xs)).trans (by rw [KC_34]; rfl)
theorem LN_35 (L : Nat) (xs : Nat → Int32) : (MC_35 L xs).1.length = 19 := by rw [KC_35]; rfl
def RC_35 : Nat → Nat → Option Nat := g_row RC_34 18 (fun _ => none)
theorem RR_35 (L : Nat) (xs : Nat → Int32) : (MC_35 L xs).2.2.2 = RC_35 := nw_R (LN_34 L xs) (RR_34 L xs)
def IC_35 : Nat → Nat → Int32 := g_row IC_33 18 (fun _ => 0)
theorem II_35 (L : Nat) (xs : Nat → Int32) : ∀ i, i ≠ 0 → (MC_35 L xs).2.1 i = IC_35 i := nw_I (LN_34 L xs) (II_34 L xs)
theorem LL_35 (L : Nat) (xs : Nat → Int32) : ∀ i k, (MC_35 L xs).2.2.1 i k = 0 := nw_L (LL_34 L xs)
def MC_36 (L : Nat) (xs : Nat → Int32) : gM := mR (MC_35 L xs) 14 3 (some 18)
theorem ST_36 (L : Nat) (xs : Nat → Int32) : pR 8 (MC_35 L xs) (some 14) 3 (some 18) = some (MC_36 L xs) := pR_of (by unfold g_k; rw [KC_35]; rfl)
theorem KC_36 (L : Nat) (xs : Nat → Int32) : (MC_36 L xs).1 = (g_K0 L).take 19 := (mR_K (MC_35 L xs) _ _ _).trans (KC_35 L xs)
theorem LN_36 (L : Nat) (xs : Nat → Int32) : (MC_36 L xs).1.length = 19 := by rw [KC_36]; rfl
def RC_36 : Nat → Nat → Option Nat := g_up RC_35 14 3 (some 18)
theorem RR_36 (L : Nat) (xs : Nat → Int32) : (MC_36 L xs).2.2.2 = RC_36 := mR_Rr (RR_35 L xs)
theorem II_36 (L : Nat) (xs : Nat → Int32) : ∀ i, i ≠ 0 → (MC_36 L xs).2.1 i = IC_35 i := mR_In (II_35 L xs)
theorem LL_36 (L : Nat) (xs : Nat → Int32) : ∀ i k, (MC_36 L xs).2.2.1 i k = 0 := mR_Ln (LL_35 L xs)
def MC_37 (L : Nat) (xs : Nat → Int32) : gM := mI (MC_36 L xs) 14 4 (0 : Int32)
theorem ST_37 (L : Nat) (xs : Nat → Int32) : pI 8 (MC_36 L xs) (some 14) 4 (0 : Int32) = some (MC_37 L xs) := pI_of (by unfold g_k; rw [KC_36]; rfl)
theorem KC_37 (L : Nat) (xs : Nat → Int32) : (MC_37 L xs).1 = (g_K0 L).take 19 := (mI_K (MC_36 L xs) _ _ _).trans (KC_36 L xs)
theorem LN_37 (L : Nat) (xs : Nat → Int32) : (MC_37 L xs).1.length = 19 := by rw [KC_37]; rfl
theorem RR_37 (L : Nat) (xs : Nat → Int32) : (MC_37 L xs).2.2.2 = RC_36 := (mI_Rn (MC_36 L xs) _ _ _).trans (RR_36 L xs)
def IC_37 : Nat → Nat → Int32 := g_up IC_35 14 4 (0)
theorem II_37 (L : Nat) (xs : Nat → Int32) : ∀ i, i ≠ 0 → (MC_37 L xs).2.1 i = IC_37 i := mI_I (II_36 L xs)
theorem LL_37 (L : Nat) (xs : Nat → Int32) : ∀ i k, (MC_37 L xs).2.2.1 i k = 0 := mI_Ln (LL_36 L xs)
def MC_38 (L : Nat) (xs : Nat → Int32) : gM := mI (MC_37 L xs) 14 5 (0 : Int32)
theorem ST_38 (L : Nat) (xs : Nat → Int32) : pI 8 (MC_37 L xs) (some 14) 5 (0 : Int32) = some (MC_38 L xs) := pI_of (by unfold g_k; rw [KC_37]; rfl)
theorem KC_38 (L : Nat) (xs : Nat → Int32) : (MC_38 L xs).1 = (g_K0 L).take 19 := (mI_K (MC_37 L xs) _ _ _).trans (KC_37 L xs)
theorem LN_38 (L : Nat) (xs : Nat → Int32) : (MC_38 L xs).1.length = 19 := by rw [KC_38]; rfl
theorem RR_38 (L : Nat) (xs : Nat → Int32) : (MC_38 L xs).2.2.2 = RC_36 := (mI_Rn (MC_37 L xs) _ _ _).trans (RR_37 L xs)
def IC_38 : Nat → Nat → Int32 := g_up IC_37 14 5 (0)
theorem II_38 (L : Nat) (xs : Nat → Int32) : ∀ i, i ≠ 0 → (MC_38 L xs).2.1 i = IC_38 i := mI_I (II_37 L xs)
theorem LL_38 (L : Nat) (xs : Nat → Int32) : ∀ i k, (MC_38 L xs).2.2.1 i k = 0 := mI_Ln (LL_37 L xs)
def MC_39 (L : Nat) (xs : Nat → Int32) : gM := mI (MC_38 L xs) 14 6 (0 : Int32)
theorem ST_39 (L : Nat) (xs : Nat → Int32) : pI 8 (MC_38 L xs) (some 14) 6 (0 : Int32) = some (MC_39 L xs) := pI_of (by unfold g_k; rw [KC_38]; rfl)
theorem KC_39 (L : Nat) (xs : Nat → Int32) : (MC_39 L xs).1 = (g_K0 L).take 19 := (mI_K (MC_38 L xs) _ _ _).trans (KC_38 L xs)
theorem LN_39 (L : Nat) (xs : Nat → Int32) : (MC_39 L xs).1.length = 19 := by rw [KC_39]; rfl
theorem RR_39 (L : Nat) (xs : Nat → Int32) : (MC_39 L xs).2.2.2 = RC_36 := (mI_Rn (MC_38 L xs) _ _ _).trans (RR_38 L xs)
def IC_39 : Nat → Nat → Int32 := g_up IC_38 14 6 (0)
theorem II_39 (L : Nat) (xs : Nat → Int32) : ∀ i, i ≠ 0 → (MC_39 L xs).2.1 i = IC_39 i := mI_I (II_38 L xs)
theorem LL_39 (L : Nat) (xs : Nat → Int32) : ∀ i k, (MC_39 L xs).2.2.1 i k = 0 := mI_Ln (LL_38 L xs)
def MC_40 (L : Nat) (xs : Nat → Int32) : gM := mR (MC_39 L xs) 2 6 (some 14)
theorem ST_40 (L : Nat) (xs : Nat → Int32) : pR 11 (MC_39 L xs) (some 2) 6 (some 14) = some (MC_40 L xs) := pR_of (by unfold g_k; rw [KC_39]; rfl)
theorem KC_40 (L : Nat) (xs : Nat → Int32) : (MC_40 L xs).1 = (g_K0 L).take 19 := (mR_K (MC_39 L xs) _ _ _).trans (KC_39 L xs)
theorem LN_40 (L : Nat) (xs : Nat → Int32) : (MC_40 L xs).1.length = 19 := by rw [KC_40]; rfl
def RC_40 : Nat → Nat → Option Nat := g_up RC_36 2 6 (some 14)
theorem RR_40 (L : Nat) (xs : Nat → Int32) : (MC_40 L xs).2.2.2 = RC_40 := mR_Rr (RR_39 L xs)
theorem II_40 (L : Nat) (xs : Nat → Int32) : ∀ i, i ≠ 0 → (MC_40 L xs).2.1 i = IC_39 i := mR_In (II_39 L xs)
theorem LL_40 (L : Nat) (xs : Nat → Int32) : ∀ i k, (MC_40 L xs).2.2.1 i k = 0 := mR_Ln (LL_39 L xs)
def MC_41 (L : Nat) (xs : Nat → Int32) : gM := nw (4, 0) (MC_40 L xs)
theorem NW_41 (L : Nat) (xs : Nat → Int32) : nw (4, 0) (MC_40 L xs) = MC_41 L xs := rfl
theorem KC_41 (L : Nat) (xs : Nat → Int32) : (MC_41 L xs).1 = (g_K0 L).take 20 := (nw_K _ (MC_40 L xs)).trans (by rw [KC_40]; rfl)
theorem LN_41 (L : Nat) (xs : Nat → Int32) : (MC_41 L xs).1.length = 20 := by rw [KC_41]; rfl
def RC_41 : Nat → Nat → Option Nat := g_row RC_40 19 (fun _ => none)
theorem RR_41 (L : Nat) (xs : Nat → Int32) : (MC_41 L xs).2.2.2 = RC_41 := nw_R (LN_40 L xs) (RR_40 L xs)
def IC_41 : Nat → Nat → Int32 := g_row IC_39 19 (fun _ => 0)
theorem II_41 (L : Nat) (xs : Nat → Int32) : ∀ i, i ≠ 0 → (MC_41 L xs).2.1 i = IC_41 i := nw_I (LN_40 L xs) (II_40 L xs)
theorem LL_41 (L : Nat) (xs : Nat → Int32) : ∀ i k, (MC_41 L xs).2.2.1 i k = 0 := nw_L (LL_40 L xs)
def MC_42 (L : Nat) (xs : Nat → Int32) : gM := nw (24, 20) (MC_41 L xs)
theorem NW_42 (L : Nat) (xs : Nat → Int32) : nw (24, 20) (MC_41 L xs) = MC_42 L xs := rfl
theorem KC_42 (L : Nat) (xs : Nat → Int32) : (MC_42 L xs).1 = (g_K0 L).take 21 := (nw_K _ (MC_41 L xs)).trans (by rw [KC_41]; rfl)
theorem LN_42 (L : Nat) (xs : Nat → Int32) : (MC_42 L xs).1.length = 21 := by rw [KC_42]; rfl
def RC_42 : Nat → Nat → Option Nat := g_row RC_41 20 (fun _ => none)
theorem RR_42 (L : Nat) (xs : Nat → Int32) : (MC_42 L xs).2.2.2 = RC_42 := nw_R (LN_41 L xs) (RR_41 L xs)
def IC_42 : Nat → Nat → Int32 := g_row IC_41 20 (fun _ => 0)
theorem II_42 (L : Nat) (xs : Nat → Int32) : ∀ i, i ≠ 0 → (MC_42 L xs).2.1 i = IC_42 i := nw_I (LN_41 L xs) (II_41 L xs)
theorem LL_42 (L : Nat) (xs : Nat → Int32) : ∀ i k, (MC_42 L xs).2.2.1 i k = 0 := nw_L (LL_41 L xs)
def MC_43 (L : Nat) (xs : Nat → Int32) : gM := mR (MC_42 L xs) 19 0 (some 20)
theorem ST_43 (L : Nat) (xs : Nat → Int32) : pR 4 (MC_42 L xs) (some 19) 0 (some 20) = some (MC_43 L xs) := pR_of (by unfold g_k; rw [KC_42]; rfl)
theorem KC_43 (L : Nat) (xs : Nat → Int32) : (MC_43 L xs).1 = (g_K0 L).take 21 := (mR_K (MC_42 L xs) _ _ _).trans (KC_42 L xs)
theorem LN_43 (L : Nat) (xs : Nat → Int32) : (MC_43 L xs).1.length = 21 := by rw [KC_43]; rfl
def RC_43 : Nat → Nat → Option Nat := g_up RC_42 19 0 (some 20)
theorem RR_43 (L : Nat) (xs : Nat → Int32) : (MC_43 L xs).2.2.2 = RC_43 := mR_Rr (RR_42 L xs)
theorem II_43 (L : Nat) (xs : Nat → Int32) : ∀ i, i ≠ 0 → (MC_43 L xs).2.1 i = IC_42 i := mR_In (II_42 L xs)
theorem LL_43 (L : Nat) (xs : Nat → Int32) : ∀ i k, (MC_43 L xs).2.2.1 i k = 0 := mR_Ln (LL_42 L xs)
def MC_44 (L : Nat) (xs : Nat → Int32) : gM := mI (MC_43 L xs) 19 1 (0 : Int32)
theorem ST_44 (L : Nat) (xs : Nat → Int32) : pI 4 (MC_43 L xs) (some 19) 1 (0 : Int32) = some (MC_44 L xs) := pI_of (by unfold g_k; rw [KC_43]; rfl)
theorem KC_44 (L : Nat) (xs : Nat → Int32) : (MC_44 L xs).1 = (g_K0 L).take 21 := (mI_K (MC_43 L xs) _ _ _).trans (KC_43 L xs)
theorem LN_44 (L : Nat) (xs : Nat → Int32) : (MC_44 L xs).1.length = 21 := by rw [KC_44]; rfl
theorem RR_44 (L : Nat) (xs : Nat → Int32) : (MC_44 L xs).2.2.2 = RC_43 := (mI_Rn (MC_43 L xs) _ _ _).trans (RR_43 L xs)
def IC_44 : Nat → Nat → Int32 := g_up IC_42 19 1 (0)
theorem II_44 (L : Nat) (xs : Nat → Int32) : ∀ i, i ≠ 0 → (MC_44 L xs).2.1 i = IC_44 i := mI_I (II_43 L xs)
theorem LL_44 (L : Nat) (xs : Nat → Int32) : ∀ i k, (MC_44 L xs).2.2.1 i k = 0 := mI_Ln (LL_43 L xs)
def MC_45 (L : Nat) (xs : Nat → Int32) : gM := mI (MC_44 L xs) 19 2 (0 : Int32)
theorem ST_45 (L : Nat) (xs : Nat → Int32) : pI 4 (MC_44 L xs) (some 19) 2 (0 : Int32) = some (MC_45 L xs) := pI_of (by unfold g_k; rw [KC_44]; rfl)
theorem KC_45 (L : Nat) (xs : Nat → Int32) : (MC_45 L xs).1 = (g_K0 L).take 21 := (mI_K (MC_44 L xs) _ _ _).trans (KC_44 L xs)
theorem LN_45 (L : Nat) (xs : Nat → Int32) : (MC_45 L xs).1.length = 21 := by rw [KC_45]; rfl
theorem RR_45 (L : Nat) (xs : Nat → Int32) : (MC_45 L xs).2.2.2 = RC_43 := (mI_Rn (MC_44 L xs) _ _ _).trans (RR_44 L xs)
def IC_45 : Nat → Nat → Int32 := g_up IC_44 19 2 (0)
theorem II_45 (L : Nat) (xs : Nat → Int32) : ∀ i, i ≠ 0 → (MC_45 L xs).2.1 i = IC_45 i := mI_I (II_44 L xs)
theorem LL_45 (L : Nat) (xs : Nat → Int32) : ∀ i k, (MC_45 L xs).2.2.1 i k = 0 := mI_Ln (LL_44 L xs)
theorem GR_45_90 (L : Nat) (xs : Nat → Int32) : gR 4 (MC_45 L xs) (some 19) 0 = some (some 20) := gR_of (by unfold g_k; rw [KC_45]; rfl) (by rw [RR_45]; decide +kernel)
def MC_46 (L : Nat) (xs : Nat → Int32) : gM := nw (8, 0) (MC_45 L xs)
theorem NW_46 (L : Nat) (xs : Nat → Int32) : nw (8, 0) (MC_45 L xs) = MC_46 L xs := rfl
theorem KC_46 (L : Nat) (xs : Nat → Int32) : (MC_46 L xs).1 = (g_K0 L).take 22 := (nw_K _ (MC_45 L xs)).trans (by rw [KC_45]; rfl)
theorem LN_46 (L : Nat) (xs : Nat → Int32) : (MC_46 L xs).1.length = 22 := by rw [KC_46]; rfl
def RC_46 : Nat → Nat → Option Nat := g_row RC_43 21 (fun _ => none)
theorem RR_46 (L : Nat) (xs : Nat → Int32) : (MC_46 L xs).2.2.2 = RC_46 := nw_R (LN_45 L xs) (RR_45 L xs)
def IC_46 : Nat → Nat → Int32 := g_row IC_45 21 (fun _ => 0)
theorem II_46 (L : Nat) (xs : Nat → Int32) : ∀ i, i ≠ 0 → (MC_46 L xs).2.1 i = IC_46 i := nw_I (LN_45 L xs) (II_45 L xs)
theorem LL_46 (L : Nat) (xs : Nat → Int32) : ∀ i k, (MC_46 L xs).2.2.1 i k = 0 := nw_L (LL_45 L xs)
def MC_47 (L : Nat) (xs : Nat → Int32) : gM := nw (20, 49) (MC_46 L xs)
theorem NW_47 (L : Nat) (xs : Nat → Int32) : nw (20, 49) (MC_46 L xs) = MC_47 L xs := rfl
theorem KC_47 (L : Nat) (xs : Nat → Int32) : (MC_47 L xs).1 = (g_K0 L).take 23 := (nw_K _ (MC_46 L xs)).trans (by rw [KC_46]; rfl)
theorem LN_47 (L : Nat) (xs : Nat → Int32) : (MC_47 L xs).1.length = 23 := by rw [KC_47]; rfl
def RC_47 : Nat → Nat → Option Nat := g_row RC_46 22 (fun _ => none)
theorem RR_47 (L : Nat) (xs : Nat → Int32) : (MC_47 L xs).2.2.2 = RC_47 := nw_R (LN_46 L xs) (RR_46 L xs)
def IC_47 : Nat → Nat → Int32 := g_row IC_46 22 (fun _ => 0)
theorem II_47 (L : Nat) (xs : Nat → Int32) : ∀ i, i ≠ 0 → (MC_47 L xs).2.1 i = IC_47 i := nw_I (LN_46 L xs) (II_46 L xs)
theorem LL_47 (L : Nat) (xs : Nat → Int32) : ∀ i k, (MC_47 L xs).2.2.1 i k = 0 := nw_L (LL_46 L xs)
def MC_48 (L : Nat) (xs : Nat → Int32) : gM := mR (MC_47 L xs) 21 0 (some 22)
theorem ST_48 (L : Nat) (xs : Nat → Int32) : pR 8 (MC_47 L xs) (some 21) 0 (some 22) = some (MC_48 L xs) := pR_of (by unfold g_k; rw [KC_47]; rfl)
theorem KC_48 (L : Nat) (xs : Nat → Int32) : (MC_48 L xs).1 = (g_K0 L).take 23 := (mR_K (MC_47 L xs) _ _ _).trans (KC_47 L xs)
theorem LN_48 (L : Nat) (xs : Nat → Int32) : (MC_48 L xs).1.length = 23 := by rw [KC_48]; rfl
def RC_48 : Nat → Nat → Option Nat := g_up RC_47 21 0 (some 22)
theorem RR_48 (L : Nat) (xs : Nat → Int32) : (MC_48 L xs).2.2.2 = RC_48 := mR_Rr (RR_47 L xs)
theorem II_48 (L : Nat) (xs : Nat → Int32) : ∀ i, i ≠ 0 → (MC_48 L xs).2.1 i = IC_47 i := mR_In (II_47 L xs)
theorem LL_48 (L : Nat) (xs : Nat → Int32) : ∀ i k, (MC_48 L xs).2.2.1 i k = 0 := mR_Ln (LL_47 L xs)
def MC_49 (L : Nat) (xs : Nat → Int32) : gM := nw (20, 49) (MC_48 L xs)
theorem NW_49 (L : Nat) (xs : Nat → Int32) : nw (20, 49) (MC_48 L xs) = MC_49 L xs := rfl
theorem KC_49 (L : Nat) (xs : Nat → Int32) : (MC_49 L xs).1 = (g_K0 L).take 24 := (nw_K _ (MC_48 L xs)).trans (by rw [KC_48]; rfl)
theorem LN_49 (L : Nat) (xs : Nat → Int32) : (MC_49 L xs).1.length = 24 := by rw [KC_49]; rfl
def RC_49 : Nat → Nat → Option Nat := g_row RC_48 23 (fun _ => none)
theorem RR_49 (L : Nat) (xs : Nat → Int32) : (MC_49 L xs).2.2.2 = RC_49 := nw_R (LN_48 L xs) (RR_48 L xs)
def IC_49 : Nat → Nat → Int32 := g_row IC_47 23 (fun _ => 0)
theorem II_49 (L : Nat) (xs : Nat → Int32) : ∀ i, i ≠ 0 → (MC_49 L xs).2.1 i = IC_49 i := nw_I (LN_48 L xs) (II_48 L xs)
theorem LL_49 (L : Nat) (xs : Nat → Int32) : ∀ i k, (MC_49 L xs).2.2.1 i k = 0 := nw_L (LL_48 L xs)
def MC_50 (L : Nat) (xs : Nat → Int32) : gM := mR (MC_49 L xs) 21 1 (some 23)
theorem ST_50 (L : Nat) (xs : Nat → Int32) : pR 8 (MC_49 L xs) (some 21) 1 (some 23) = some (MC_50 L xs) := pR_of (by unfold g_k; rw [KC_49]; rfl)
theorem KC_50 (L : Nat) (xs : Nat → Int32) : (MC_50 L xs).1 = (g_K0 L).take 24 := (mR_K (MC_49 L xs) _ _ _).trans (KC_49 L xs)
theorem LN_50 (L : Nat) (xs : Nat → Int32) : (MC_50 L xs).1.length = 24 := by rw [KC_50]; rfl
def RC_50 : Nat → Nat → Option Nat := g_up RC_49 21 1 (some 23)
theorem RR_50 (L : Nat) (xs : Nat → Int32) : (MC_50 L xs).2.2.2 = RC_50 := mR_Rr (RR_49 L xs)
theorem II_50 (L : Nat) (xs : Nat → Int32) : ∀ i, i ≠ 0 → (MC_50 L xs).2.1 i = IC_49 i := mR_In (II_49 L xs)
theorem LL_50 (L : Nat) (xs : Nat → Int32) : ∀ i k, (MC_50 L xs).2.2.1 i k = 0 := mR_Ln (LL_49 L xs)
def MC_51 (L : Nat) (xs : Nat → Int32) : gM := nw (20, 7) (MC_50 L xs)
theorem NW_51 (L : Nat) (xs : Nat → Int32) : nw (20, 7) (MC_50 L xs) = MC_51 L xs := rfl
theorem KC_51 (L : Nat) (xs : Nat → Int32) : (MC_51 L xs).1 = (g_K0 L).take 25 := (nw_K _ (MC_50 L xs)).trans (by rw [KC_50]; rfl)
theorem LN_51 (L : Nat) (xs : Nat → Int32) : (MC_51 L xs).1.length = 25 := by rw [KC_51]; rfl
def RC_51 : Nat → Nat → Option Nat := g_row RC_50 24 (fun _ => none)
theorem RR_51 (L : Nat) (xs : Nat → Int32) : (MC_51 L xs).2.2.2 = RC_51 := nw_R (LN_50 L xs) (RR_50 L xs)
def IC_51 : Nat → Nat → Int32 := g_row IC_49 24 (fun _ => 0)
theorem II_51 (L : Nat) (xs : Nat → Int32) : ∀ i, i ≠ 0 → (MC_51 L xs).2.1 i = IC_51 i := nw_I (LN_50 L xs) (II_50 L xs)
theorem LL_51 (L : Nat) (xs : Nat → Int32) : ∀ i k, (MC_51 L xs).2.2.1 i k = 0 := nw_L (LL_50 L xs)
def MC_52 (L : Nat) (xs : Nat → Int32) : gM := mR (MC_51 L xs) 21 2 (some 24)
theorem ST_52 (L : Nat) (xs : Nat → Int32) : pR 8 (MC_51 L xs) (some 21) 2 (some 24) = some (MC_52 L xs) := pR_of (by unfold g_k; rw [KC_51]; rfl)
theorem KC_52 (L : Nat) (xs : Nat → Int32) : (MC_52 L xs).1 = (g_K0 L).take 25 := (mR_K (MC_51 L xs) _ _ _).trans (KC_51 L xs)
theorem LN_52 (L : Nat) (xs : Nat → Int32) : (MC_52 L xs).1.length = 25 := by rw [KC_52]; rfl
def RC_52 : Nat → Nat → Option Nat := g_up RC_51 21 2 (some 24)
theorem RR_52 (L : Nat) (xs : Nat → Int32) : (MC_52 L xs).2.2.2 = RC_52 := mR_Rr (RR_51 L xs)
theorem II_52 (L : Nat) (xs : Nat → Int32) : ∀ i, i ≠ 0 → (MC_52 L xs).2.1 i = IC_51 i := mR_In (II_51 L xs)
theorem LL_52 (L : Nat) (xs : Nat → Int32) : ∀ i k, (MC_52 L xs).2.2.1 i k = 0 := mR_Ln (LL_51 L xs)
def MC_53 (L : Nat) (xs : Nat → Int32) : gM := nw (20, 7) (MC_52 L xs)
theorem NW_53 (L : Nat) (xs : Nat → Int32) : nw (20, 7) (MC_52 L xs) = MC_53 L xs := rfl
theorem KC_53 (L : Nat) (xs : Nat → Int32) : (MC_53 L xs).1 = (g_K0 L).take 26 := (nw_K _ (MC_52 L xs)).trans (by rw [KC_52]; rfl)
theorem LN_53 (L : Nat) (xs : Nat → Int32) : (MC_53 L xs).1.length = 26 := by rw [KC_53]; rfl
def RC_53 : Nat → Nat → Option Nat := g_row RC_52 25 (fun _ => none)
theorem RR_53 (L : Nat) (xs : Nat → Int32) : (MC_53 L xs).2.2.2 = RC_53 := nw_R (LN_52 L xs) (RR_52 L xs)
def IC_53 : Nat → Nat → Int32 := g_row IC_51 25 (fun _ => 0)
theorem II_53 (L : Nat) (xs : Nat → Int32) : ∀ i, i ≠ 0 → (MC_53 L xs).2.1 i = IC_53 i := nw_I (LN_52 L xs) (II_52 L xs)
theorem LL_53 (L : Nat) (xs : Nat → Int32) : ∀ i k, (MC_53 L xs).2.2.1 i k = 0 := nw_L (LL_52 L xs)
def MC_54 (L : Nat) (xs : Nat → Int32) : gM := mR (MC_53 L xs) 21 3 (some 25)
theorem ST_54 (L : Nat) (xs : Nat → Int32) : pR 8 (MC_53 L xs) (some 21) 3 (some 25) = some (MC_54 L xs) := pR_of (by unfold g_k; rw [KC_53]; rfl)
theorem KC_54 (L : Nat) (xs : Nat → Int32) : (MC_54 L xs).1 = (g_K0 L).take 26 := (mR_K (MC_53 L xs) _ _ _).trans (KC_53 L xs)
theorem LN_54 (L : Nat) (xs : Nat → Int32) : (MC_54 L xs).1.length = 26 := by rw [KC_54]; rfl
def RC_54 : Nat → Nat → Option Nat := g_up RC_53 21 3 (some 25)
theorem RR_54 (L : Nat) (xs : Nat → Int32) : (MC_54 L xs).2.2.2 = RC_54 := mR_Rr (RR_53 L xs)
theorem II_54 (L : Nat) (xs : Nat → Int32) : ∀ i, i ≠ 0 → (MC_54 L xs).2.1 i = IC_53 i := mR_In (II_53 L xs)
theorem LL_54 (L : Nat) (xs : Nat → Int32) : ∀ i k, (MC_54 L xs).2.2.1 i k = 0 := mR_Ln (LL_53 L xs)
def MC_55 (L : Nat) (xs : Nat → Int32) : gM := mI (MC_54 L xs) 21 4 (0 : Int32)
theorem ST_55 (L : Nat) (xs : Nat → Int32) : pI 8 (MC_54 L xs) (some 21) 4 (0 : Int32) = some (MC_55 L xs) := pI_of (by unfold g_k; rw [KC_54]; rfl)
theorem KC_55 (L : Nat) (xs : Nat → Int32) : (MC_55 L xs).1 = (g_K0 L).take 26 := (mI_K (MC_54 L xs) _ _ _).trans (KC_54 L xs)
theorem LN_55 (L : Nat) (xs : Nat → Int32) : (MC_55 L xs).1.length = 26 := by rw [KC_55]; rfl
theorem RR_55 (L : Nat) (xs : Nat → Int32) : (MC_55 L xs).2.2.2 = RC_54 := (mI_Rn (MC_54 L xs) _ _ _).trans (RR_54 L xs)
def IC_55 : Nat → Nat → Int32 := g_up IC_53 21 4 (0)
theorem II_55 (L : Nat) (xs : Nat → Int32) : ∀ i, i ≠ 0 → (MC_55 L xs).2.1 i = IC_55 i := mI_I (II_54 L xs)
theorem LL_55 (L : Nat) (xs : Nat → Int32) : ∀ i k, (MC_55 L xs).2.2.1 i k = 0 := mI_Ln (LL_54 L xs)
def MC_56 (L : Nat) (xs : Nat → Int32) : gM := mI (MC_55 L xs) 21 5 (0 : Int32)
theorem ST_56 (L : Nat) (xs : Nat → Int32) : pI 8 (MC_55 L xs) (some 21) 5 (0 : Int32) = some (MC_56 L xs) := pI_of (by unfold g_k; rw [KC_55]; rfl)
theorem KC_56 (L : Nat) (xs : Nat → Int32) : (MC_56 L xs).1 = (g_K0 L).take 26 := (mI_K (MC_55 L xs) _ _ _).trans (KC_55 L xs)
theorem LN_56 (L : Nat) (xs : Nat → Int32) : (MC_56 L xs).1.length = 26 := by rw [KC_56]; rfl
theorem RR_56 (L : Nat) (xs : Nat → Int32) : (MC_56 L xs).2.2.2 = RC_54 := (mI_Rn (MC_55 L xs) _ _ _).trans (RR_55 L xs)
def IC_56 : Nat → Nat → Int32 := g_up IC_55 21 5 (0)
theorem II_56 (L : Nat) (xs : Nat → Int32) : ∀ i, i ≠ 0 → (MC_56 L xs).2.1 i = IC_56 i := mI_I (II_55 L xs)
theorem LL_56 (L : Nat) (xs : Nat → Int32) : ∀ i k, (MC_56 L xs).2.2.1 i k = 0 := mI_Ln (LL_55 L xs)
def MC_57 (L : Nat) (xs : Nat → Int32) : gM := mI (MC_56 L xs) 21 6 (0 : Int32)
theorem ST_57 (L : Nat) (xs : Nat → Int32) : pI 8 (MC_56 L xs) (some 21) 6 (0 : Int32) = some (MC_57 L xs) := pI_of (by unfold g_k; rw [KC_56]; rfl)
theorem KC_57 (L : Nat) (xs : Nat → Int32) : (MC_57 L xs).1 = (g_K0 L).take 26 := (mI_K (MC_56 L xs) _ _ _).trans (KC_56 L xs)
theorem LN_57 (L : Nat) (xs : Nat → Int32) : (MC_57 L xs).1.length = 26 := by rw [KC_57]; rfl
theorem RR_57 (L : Nat) (xs : Nat → Int32) : (MC_57 L xs).2.2.2 = RC_54 := (mI_Rn (MC_56 L xs) _ _ _).trans (RR_56 L xs)
def IC_57 : Nat → Nat → Int32 := g_up IC_56 21 6 (0)
theorem II_57 (L : Nat) (xs : Nat → Int32) : ∀ i, i ≠ 0 → (MC_57 L xs).2.1 i = IC_57 i := mI_I (II_56 L xs)
theorem LL_57 (L : Nat) (xs : Nat → Int32) : ∀ i k, (MC_57 L xs).2.2.1 i k = 0 := mI_Ln (LL_56 L xs)
def MC_58 (L : Nat) (xs : Nat → Int32) : gM := mR (MC_57 L xs) 20 0 (some 21)
theorem ST_58 (L : Nat) (xs : Nat → Int32) : sR 24 (MC_57 L xs) (some 20) (0 : Int32) (some 21) = some (MC_58 L xs) := sR_of (n := 20) (by unfold g_k; rw [KC_57]; rfl) (by unfold g_k; rw [KC_57]; rfl) (by decide) (by decide)
theorem KC_58 (L : Nat) (xs : Nat → Int32) : (MC_58 L xs).1 = (g_K0 L).take 26 := (mR_K (MC_57 L xs) _ _ _).trans (KC_57 L xs)
theorem LN_58 (L : Nat) (xs : Nat → Int32) : (MC_58 L xs).1.length = 26 := by rw [KC_58]; rfl
def RC_58 : Nat → Nat → Option Nat := g_up RC_54 20 0 (some 21)
theorem RR_58 (L : Nat) (xs : Nat → Int32) : (MC_58 L xs).2.2.2 = RC_58 := mR_Rr (RR_57 L xs)
theorem II_58 (L : Nat) (xs : Nat → Int32) : ∀ i, i ≠ 0 → (MC_58 L xs).2.1 i = IC_57 i := mR_In (II_57 L xs)
theorem LL_58 (L : Nat) (xs : Nat → Int32) : ∀ i k, (MC_58 L xs).2.2.1 i k = 0 := mR_Ln (LL_57 L xs)
theorem GR_58_117 (L : Nat) (xs : Nat → Int32) : gR 4 (MC_58 L xs) (some 19) 0 = some (some 20) := gR_of (by unfold g_k; rw [KC_58]; rfl) (by rw [RR_58]; decide +kernel)
def MC_59 (L : Nat) (xs : Nat → Int32) : gM := nw (8, 0) (MC_58 L xs)
theorem NW_59 (L : Nat) (xs : Nat → Int32) : nw (8, 0) (MC_58 L xs) = MC_59 L xs := rfl
theorem KC_59 (L : Nat) (xs : Nat → Int32) : (MC_59 L xs).1 = (g_K0 L).take 27 := (nw_K _ (MC_58 L xs)).trans (by rw [KC_58]; rfl)
theorem LN_59 (L : Nat) (xs : Nat → Int32) : (MC_59 L xs).1.length = 27 := by rw [KC_59]; rfl
def RC_59 : Nat → Nat → Option Nat := g_row RC_58 26 (fun _ => none)
theorem RR_59 (L : Nat) (xs : Nat → Int32) : (MC_59 L xs).2.2.2 = RC_59 := nw_R (LN_58 L xs) (RR_58 L xs)
def IC_59 : Nat → Nat → Int32 := g_row IC_57 26 (fun _ => 0)
theorem II_59 (L : Nat) (xs : Nat → Int32) : ∀ i, i ≠ 0 → (MC_59 L xs).2.1 i = IC_59 i := nw_I (LN_58 L xs) (II_58 L xs)
theorem LL_59 (L : Nat) (xs : Nat → Int32) : ∀ i k, (MC_59 L xs).2.2.1 i k = 0 := nw_L (LL_58 L xs)
def MC_60 (L : Nat) (xs : Nat → Int32) : gM := nw (20, 49) (MC_59 L xs)
theorem NW_60 (L : Nat) (xs : Nat → Int32) : nw (20, 49) (MC_59 L xs) = MC_60 L xs := rfl
theorem KC_60 (L : Nat) (xs : Nat → Int32) : (MC_60 L xs).1 = (g_K0 L).take 28 := (nw_K _ (MC_59 L xs)).trans (by rw [KC_59]; rfl)
theorem LN_60 (L : Nat) (xs : Nat → Int32) : (MC_60 L xs).1.length = 28 := by rw [KC_60]; rfl
def RC_60 : Nat → Nat → Option Nat := g_row RC_59 27 (fun _ => none)
theorem RR_60 (L : Nat) (xs : Nat → Int32) : (MC_60 L xs).2.2.2 = RC_60 := nw_R (LN_59 L xs) (RR_59 L xs)
def IC_60 : Nat → Nat → Int32 := g_row IC_59 27 (fun _ => 0)
theorem II_60 (L : Nat) (xs : Nat → Int32) : ∀ i, i ≠ 0 → (MC_60 L xs).2.1 i = IC_60 i := nw_I (LN_59 L xs) (II_59 L xs)
theorem LL_60 (L : Nat) (xs : Nat → Int32) : ∀ i k, (MC_60 L xs).2.2.1 i k = 0 := nw_L (LL_59 L xs)
def MC_61 (L : Nat) (xs : Nat → Int32) : gM := mR (MC_60 L xs) 26 0 (some 27)
theorem ST_61 (L : Nat) (xs : Nat → Int32) : pR 8 (MC_60 L xs) (some 26) 0 (some 27) = some (MC_61 L xs) := pR_of (by unfold g_k; rw [KC_60]; rfl)
theorem KC_61 (L : Nat) (xs : Nat → Int32) : (MC_61 L xs).1 = (g_K0 L).take 28 := (mR_K (MC_60 L xs) _ _ _).trans (KC_60 L xs)
theorem LN_61 (L : Nat) (xs : Nat → Int32) : (MC_61 L xs).1.length = 28 := by rw [KC_61]; rfl
def RC_61 : Nat → Nat → Option Nat := g_up RC_60 26 0 (some 27)
theorem RR_61 (L : Nat) (xs : Nat → Int32) : (MC_61 L xs).2.2.2 = RC_61 := mR_Rr (RR_60 L xs)
theorem II_61 (L : Nat) (xs : Nat → Int32) : ∀ i, i ≠ 0 → (MC_61 L xs).2.1 i = IC_60 i := mR_In (II_60 L xs)
theorem LL_61 (L : Nat) (xs : Nat → Int32) : ∀ i k, (MC_61 L xs).2.2.1 i k = 0 := mR_Ln (LL_60 L xs)
def MC_62 (L : Nat) (xs : Nat → Int32) : gM := nw (20, 49) (MC_61 L xs)
theorem NW_62 (L : Nat) (xs : Nat → Int32) : nw (20, 49) (MC_61 L xs) = MC_62 L xs := rfl
theorem KC_62 (L : Nat) (xs : Nat → Int32) : (MC_62 L xs).1 = (g_K0 L).take 29 := (nw_K _ (MC_61 L xs)).trans (by rw [KC_61]; rfl)
theorem LN_62 (L : Nat) (xs : Nat → Int32) : (MC_62 L xs).1.length = 29 := by rw [KC_62]; rfl
def RC_62 : Nat → Nat → Option Nat := g_row RC_61 28 (fun _ => none)
theorem RR_62 (L : Nat) (xs : Nat → Int32) : (MC_62 L xs).2.2.2 = RC_62 := nw_R (LN_61 L xs) (RR_61 L xs)
def IC_62 : Nat → Nat → Int32 := g_row IC_60 28 (fun _ => 0)
theorem II_62 (L : Nat) (xs : Nat → Int32) : ∀ i, i ≠ 0 → (MC_62 L xs).2.1 i = IC_62 i := nw_I (LN_61 L xs) (II_61 L xs)
theorem LL_62 (L : Nat) (xs : Nat → Int32) : ∀ i k, (MC_62 L xs).2.2.1 i k = 0 := nw_L (LL_61 L xs)
def MC_63 (L : Nat) (xs : Nat → Int32) : gM := mR (MC_62 L xs) 26 1 (some 28)
theorem ST_63 (L : Nat) (xs : Nat → Int32) : pR 8 (MC_62 L xs) (some 26) 1 (some 28) = some (MC_63 L xs) := pR_of (by unfold g_k; rw [KC_62]; rfl)
theorem KC_63 (L : Nat) (xs : Nat → Int32) : (MC_63 L xs).1 = (g_K0 L).take 29 := (mR_K (MC_62 L xs) _ _ _).trans (KC_62 L xs)
theorem LN_63 (L : Nat) (xs : Nat → Int32) : (MC_63 L xs).1.length = 29 := by rw [KC_63]; rfl
def RC_63 : Nat → Nat → Option Nat := g_up RC_62 26 1 (some 28)
theorem RR_63 (L : Nat) (xs : Nat → Int32) : (MC_63 L xs).2.2.2 = RC_63 := mR_Rr (RR_62 L xs)
theorem II_63 (L : Nat) (xs : Nat → Int32) : ∀ i, i ≠ 0 → (MC_63 L xs).2.1 i = IC_62 i := mR_In (II_62 L xs)
theorem LL_63 (L : Nat) (xs : Nat → Int32) : ∀ i k, (MC_63 L xs).2.2.1 i k = 0 := mR_Ln (LL_62 L xs)
def MC_64 (L : Nat) (xs : Nat → Int32) : gM := nw (20, 7) (MC_63 L xs)
theorem NW_64 (L : Nat) (xs : Nat → Int32) : nw (20, 7) (MC_63 L xs) = MC_64 L xs := rfl
theorem KC_64 (L : Nat) (xs : Nat → Int32) : (MC_64 L xs).1 = (g_K0 L).take 30 := (nw_K _ (MC_63 L xs)).trans (by rw [KC_63]; rfl)
theorem LN_64 (L : Nat) (xs : Nat → Int32) : (MC_64 L xs).1.length = 30 := by rw [KC_64]; rfl
def RC_64 : Nat → Nat → Option Nat := g_row RC_63 29 (fun _ => none)
theorem RR_64 (L : Nat) (xs : Nat → Int32) : (MC_64 L xs).2.2.2 = RC_64 := nw_R (LN_63 L xs) (RR_63 L xs)
def IC_64 : Nat → Nat → Int32 := g_row IC_62 29 (fun _ => 0)
theorem II_64 (L : Nat) (xs : Nat → Int32) : ∀ i, i ≠ 0 → (MC_64 L xs).2.1 i = IC_64 i := nw_I (LN_63 L xs) (II_63 L xs)
theorem LL_64 (L : Nat) (xs : Nat → Int32) : ∀ i k, (MC_64 L xs).2.2.1 i k = 0 := nw_L (LL_63 L xs)
def MC_65 (L : Nat) (xs : Nat → Int32) : gM := mR (MC_64 L xs) 26 2 (some 29)
theorem ST_65 (L : Nat) (xs : Nat → Int32) : pR 8 (MC_64 L xs) (some 26) 2 (some 29) = some (MC_65 L xs) := pR_of (by unfold g_k; rw [KC_64]; rfl)
theorem KC_65 (L : Nat) (xs : Nat → Int32) : (MC_65 L xs).1 = (g_K0 L).take 30 := (mR_K (MC_64 L xs) _ _ _).trans (KC_64 L xs)
theorem LN_65 (L : Nat) (xs : Nat → Int32) : (MC_65 L xs).1.length = 30 := by rw [KC_65]; rfl
def RC_65 : Nat → Nat → Option Nat := g_up RC_64 26 2 (some 29)
theorem RR_65 (L : Nat) (xs : Nat → Int32) : (MC_65 L xs).2.2.2 = RC_65 := mR_Rr (RR_64 L xs)
theorem II_65 (L : Nat) (xs : Nat → Int32) : ∀ i, i ≠ 0 → (MC_65 L xs).2.1 i = IC_64 i := mR_In (II_64 L xs)
theorem LL_65 (L : Nat) (xs : Nat → Int32) : ∀ i k, (MC_65 L xs).2.2.1 i k = 0 := mR_Ln (LL_64 L xs)
def MC_66 (L : Nat) (xs : Nat → Int32) : gM := nw (20, 7) (MC_65 L xs)
theorem NW_66 (L : Nat) (xs : Nat → Int32) : nw (20, 7) (MC_65 L xs) = MC_66 L xs := rfl
theorem KC_66 (L : Nat) (xs : Nat → Int32) : (MC_66 L xs).1 = (g_K0 L).take 31 := (nw_K _ (MC_65 L xs)).trans (by rw [KC_65]; rfl)
theorem LN_66 (L : Nat) (xs : Nat → Int32) : (MC_66 L xs).1.length = 31 := by rw [KC_66]; rfl
def RC_66 : Nat → Nat → Option Nat := g_row RC_65 30 (fun _ => none)
theorem RR_66 (L : Nat) (xs : Nat → Int32) : (MC_66 L xs).2.2.2 = RC_66 := nw_R (LN_65 L xs) (RR_65 L xs)
def IC_66 : Nat → Nat → Int32 := g_row IC_64 30 (fun _ => 0)
theorem II_66 (L : Nat) (xs : Nat → Int32) : ∀ i, i ≠ 0 → (MC_66 L xs).2.1 i = IC_66 i := nw_I (LN_65 L xs) (II_65 L xs)
theorem LL_66 (L : Nat) (xs : Nat → Int32) : ∀ i k, (MC_66 L xs).2.2.1 i k = 0 := nw_L (LL_65 L xs)
def MC_67 (L : Nat) (xs : Nat → Int32) : gM := mR (MC_66 L xs) 26 3 (some 30)
theorem ST_67 (L : Nat) (xs : Nat → Int32) : pR 8 (MC_66 L xs) (some 26) 3 (some 30) = some (MC_67 L xs) := pR_of (by unfold g_k; rw [KC_66]; rfl)
theorem KC_67 (L : Nat) (xs : Nat → Int32) : (MC_67 L xs).1 = (g_K0 L).take 31 := (mR_K (MC_66 L xs) _ _ _).trans (KC_66 L xs)
theorem LN_67 (L : Nat) (xs : Nat → Int32) : (MC_67 L xs).1.length = 31 := by rw [KC_67]; rfl
def RC_67 : Nat → Nat → Option Nat := g_up RC_66 26 3 (some 30)
theorem RR_67 (L : Nat) (xs : Nat → Int32) : (MC_67 L xs).2.2.2 = RC_67 := mR_Rr (RR_66 L xs)
theorem II_67 (L : Nat) (xs : Nat → Int32) : ∀ i, i ≠ 0 → (MC_67 L xs).2.1 i = IC_66 i := mR_In (II_66 L xs)
theorem LL_67 (L : Nat) (xs : Nat → Int32) : ∀ i k, (MC_67 L xs).2.2.1 i k = 0 := mR_Ln (LL_66 L xs)
def MC_68 (L : Nat) (xs : Nat → Int32) : gM := mI (MC_67 L xs) 26 4 (0 : Int32)
theorem ST_68 (L : Nat) (xs : Nat → Int32) : pI 8 (MC_67 L xs) (some 26) 4 (0 : Int32) = some (MC_68 L xs) := pI_of (by unfold g_k; rw [KC_67]; rfl)
theorem KC_68 (L : Nat) (xs : Nat → Int32) : (MC_68 L xs).1 = (g_K0 L).take 31 := (mI_K (MC_67 L xs) _ _ _).trans (KC_67 L xs)
theorem LN_68 (L : Nat) (xs : Nat → Int32) : (MC_68 L xs).1.length = 31 := by rw [KC_68]; rfl
theorem RR_68 (L : Nat) (xs : Nat → Int32) : (MC_68 L xs).2.2.2 = RC_67 := (mI_Rn (MC_67 L xs) _ _ _).trans (RR_67 L xs)
def IC_68 : Nat → Nat → Int32 := g_up IC_66 26 4 (0)
theorem II_68 (L : Nat) (xs : Nat → Int32) : ∀ i, i ≠ 0 → (MC_68 L xs).2.1 i = IC_68 i := mI_I (II_67 L xs)
theorem LL_68 (L : Nat) (xs : Nat → Int32) : ∀ i k, (MC_68 L xs).2.2.1 i k = 0 := mI_Ln (LL_67 L xs)
def MC_69 (L : Nat) (xs : Nat → Int32) : gM := mI (MC_68 L xs) 26 5 (0 : Int32)
theorem ST_69 (L : Nat) (xs : Nat → Int32) : pI 8 (MC_68 L xs) (some 26) 5 (0 : Int32) = some (MC_69 L xs) := pI_of (by unfold g_k; rw [KC_68]; rfl)
theorem KC_69 (L : Nat) (xs : Nat → Int32) : (MC_69 L xs).1 = (g_K0 L).take 31 := (mI_K (MC_68 L xs) _ _ _).trans (KC_68 L xs)
theorem LN_69 (L : Nat) (xs : Nat → Int32) : (MC_69 L xs).1.length = 31 := by rw [KC_69]; rfl
theorem RR_69 (L : Nat) (xs : Nat → Int32) : (MC_69 L xs).2.2.2 = RC_67 := (mI_Rn (MC_68 L xs) _ _ _).trans (RR_68 L xs)
def IC_69 : Nat → Nat → Int32 := g_up IC_68 26 5 (0)
theorem II_69 (L : Nat) (xs : Nat → Int32) : ∀ i, i ≠ 0 → (MC_69 L xs).2.1 i = IC_69 i := mI_I (II_68 L xs)
theorem LL_69 (L : Nat) (xs : Nat → Int32) : ∀ i k, (MC_69 L xs).2.2.1 i k = 0 := mI_Ln (LL_68 L xs)
def MC_70 (L : Nat) (xs : Nat → Int32) : gM := mI (MC_69 L xs) 26 6 (0 : Int32)
theorem ST_70 (L : Nat) (xs : Nat → Int32) : pI 8 (MC_69 L xs) (some 26) 6 (0 : Int32) = some (MC_70 L xs) := pI_of (by unfold g_k; rw [KC_69]; rfl)
theorem KC_70 (L : Nat) (xs : Nat → Int32) : (MC_70 L xs).1 = (g_K0 L).take 31 := (mI_K (MC_69 L xs) _ _ _).trans (KC_69 L xs)
theorem LN_70 (L : Nat) (xs : Nat → Int32) : (MC_70 L xs).1.length = 31 := by rw [KC_70]; rfl
theorem RR_70 (L : Nat) (xs : Nat → Int32) : (MC_70 L xs).2.2.2 = RC_67 := (mI_Rn (MC_69 L xs) _ _ _).trans (RR_69 L xs)
def IC_70 : Nat → Nat → Int32 := g_up IC_69 26 6 (0)
theorem II_70 (L : Nat) (xs : Nat → Int32) : ∀ i, i ≠ 0 → (MC_70 L xs).2.1 i = IC_70 i := mI_I (II_69 L xs)
theorem LL_70 (L : Nat) (xs : Nat → Int32) : ∀ i k, (MC_70 L xs).2.2.1 i k = 0 := mI_Ln (LL_69 L xs)
def MC_71 (L : Nat) (xs : Nat → Int32) : gM := mR (MC_70 L xs) 20 1 (some 26)
theorem ST_71 (L : Nat) (xs : Nat → Int32) : sR 24 (MC_70 L xs) (some 20) (1 : Int32) (some 26) = some (MC_71 L xs) := sR_of (n := 20) (by unfold g_k; rw [KC_70]; rfl) (by unfold g_k; rw [KC_70]; rfl) (by decide) (by decide)
theorem KC_71 (L : Nat) (xs : Nat → Int32) : (MC_71 L xs).1 = (g_K0 L).take 31 := (mR_K (MC_70 L xs) _ _ _).trans (KC_70 L xs)
theorem LN_71 (L : Nat) (xs : Nat → Int32) : (MC_71 L xs).1.length = 31 := by rw [KC_71]; rfl
def RC_71 : Nat → Nat → Option Nat := g_up RC_67 20 1 (some 26)
theorem RR_71 (L : Nat) (xs : Nat → Int32) : (MC_71 L xs).2.2.2 = RC_71 := mR_Rr (RR_70 L xs)
theorem II_71 (L : Nat) (xs : Nat → Int32) : ∀ i, i ≠ 0 → (MC_71 L xs).2.1 i = IC_70 i := mR_In (II_70 L xs)
theorem LL_71 (L : Nat) (xs : Nat → Int32) : ∀ i k, (MC_71 L xs).2.2.1 i k = 0 := mR_Ln (LL_70 L xs)
theorem GR_71_144 (L : Nat) (xs : Nat → Int32) : gR 4 (MC_71 L xs) (some 19) 0 = some (some 20) := gR_of (by unfold g_k; rw [KC_71]; rfl) (by rw [RR_71]; decide +kernel)
def MC_72 (L : Nat) (xs : Nat → Int32) : gM := nw (8, 0) (MC_71 L xs)
theorem NW_72 (L : Nat) (xs : Nat → Int32) : nw (8, 0) (MC_71 L xs) = MC_72 L xs := rfl
theorem KC_72 (L : Nat) (xs : Nat → Int32) : (MC_72 L xs).1 = (g_K0 L).take 32 := (nw_K _ (MC_71 L xs)).trans (by rw [KC_71]; rfl)
theorem LN_72 (L : Nat) (xs : Nat → Int32) : (MC_72 L xs).1.length = 32 := by rw [KC_72]; rfl
def RC_72 : Nat → Nat → Option Nat := g_row RC_71 31 (fun _ => none)
theorem RR_72 (L : Nat) (xs : Nat → Int32) : (MC_72 L xs).2.2.2 = RC_72 := nw_R (LN_71 L xs) (RR_71 L xs)
def IC_72 : Nat → Nat → Int32 := g_row IC_70 31 (fun _ => 0)
theorem II_72 (L : Nat) (xs : Nat → Int32) : ∀ i, i ≠ 0 → (MC_72 L xs).2.1 i = IC_72 i := nw_I (LN_71 L xs) (II_71 L xs)
theorem LL_72 (L : Nat) (xs : Nat → Int32) : ∀ i k, (MC_72 L xs).2.2.1 i k = 0 := nw_L (LL_71 L xs)
def MC_73 (L : Nat) (xs : Nat → Int32) : gM := nw (20, 49) (MC_72 L xs)
theorem NW_73 (L : Nat) (xs : Nat → Int32) : nw (20, 49) (MC_72 L xs) = MC_73 L xs := rfl
theorem KC_73 (L : Nat) (xs : Nat → Int32) : (MC_73 L xs).1 = (g_K0 L).take 33 := (nw_K _ (MC_72 L xs)).trans (by rw [KC_72]; rfl)
theorem LN_73 (L : Nat) (xs : Nat → Int32) : (MC_73 L xs).1.length = 33 := by rw [KC_73]; rfl
def RC_73 : Nat → Nat → Option Nat := g_row RC_72 32 (fun _ => none)
theorem RR_73 (L : Nat) (xs : Nat → Int32) : (MC_73 L xs).2.2.2 = RC_73 := nw_R (LN_72 L xs) (RR_72 L xs)
def IC_73 : Nat → Nat → Int32 := g_row IC_72 32 (fun _ => 0)
theorem II_73 (L : Nat) (xs : Nat → Int32) : ∀ i, i ≠ 0 → (MC_73 L xs).2.1 i = IC_73 i := nw_I (LN_72 L xs) (II_72 L xs)
theorem LL_73 (L : Nat) (xs : Nat → Int32) : ∀ i k, (MC_73 L xs).2.2.1 i k = 0 := nw_L (LL_72 L xs)
def MC_74 (L : Nat) (xs : Nat → Int32) : gM := mR (MC_73 L xs) 31 0 (some 32)
theorem ST_74 (L : Nat) (xs : Nat → Int32) : pR 8 (MC_73 L xs) (some 31) 0 (some 32) = some (MC_74 L xs) := pR_of (by unfold g_k; rw [KC_73]; rfl)
theorem KC_74 (L : Nat) (xs : Nat → Int32) : (MC_74 L xs).1 = (g_K0 L).take 33 := (mR_K (MC_73 L xs) _ _ _).trans (KC_73 L xs)
theorem LN_74 (L : Nat) (xs : Nat → Int32) : (MC_74 L xs).1.length = 33 := by rw [KC_74]; rfl
def RC_74 : Nat → Nat → Option Nat := g_up RC_73 31 0 (some 32)
theorem RR_74 (L : Nat) (xs : Nat → Int32) : (MC_74 L xs).2.2.2 = RC_74 := mR_Rr (RR_73 L xs)
theorem II_74 (L : Nat) (xs : Nat → Int32) : ∀ i, i ≠ 0 → (MC_74 L xs).2.1 i = IC_73 i := mR_In (II_73 L xs)
theorem LL_74 (L : Nat) (xs : Nat → Int32) : ∀ i k, (MC_74 L xs).2.2.1 i k = 0 := mR_Ln (LL_73 L xs)
def MC_75 (L : Nat) (xs : Nat → Int32) : gM := nw (20, 49) (MC_74 L xs)
theorem NW_75 (L : Nat) (xs : Nat → Int32) : nw (20, 49) (MC_74 L xs) = MC_75 L xs := rfl
theorem KC_75 (L : Nat) (xs : Nat → Int32) : (MC_75 L xs).1 = (g_K0 L).take 34 := (nw_K _ (MC_74 L xs)).trans (by rw [KC_74]; rfl)
theorem LN_75 (L : Nat) (xs : Nat → Int32) : (MC_75 L xs).1.length = 34 := by rw [KC_75]; rfl
def RC_75 : Nat → Nat → Option Nat := g_row RC_74 33 (fun _ => none)
theorem RR_75 (L : Nat) (xs : Nat → Int32) : (MC_75 L xs).2.2.2 = RC_75 := nw_R (LN_74 L xs) (RR_74 L xs)
def IC_75 : Nat → Nat → Int32 := g_row IC_73 33 (fun _ => 0)
theorem II_75 (L : Nat) (xs : Nat → Int32) : ∀ i, i ≠ 0 → (MC_75 L xs).2.1 i = IC_75 i := nw_I (LN_74 L xs) (II_74 L xs)
theorem LL_75 (L : Nat) (xs : Nat → Int32) : ∀ i k, (MC_75 L xs).2.2.1 i k = 0 := nw_L (LL_74 L xs)
def MC_76 (L : Nat) (xs : Nat → Int32) : gM := mR (MC_75 L xs) 31 1 (some 33)
theorem ST_76 (L : Nat) (xs : Nat → Int32) : pR 8 (MC_75 L xs) (some 31) 1 (some 33) = some (MC_76 L xs) := pR_of (by unfold g_k; rw [KC_75]; rfl)
theorem KC_76 (L : Nat) (xs : Nat → Int32) : (MC_76 L xs).1 = (g_K0 L).take 34 := (mR_K (MC_75 L xs) _ _ _).trans (KC_75 L xs)
theorem LN_76 (L : Nat) (xs : Nat → Int32) : (MC_76 L xs).1.length = 34 := by rw [KC_76]; rfl
def RC_76 : Nat → Nat → Option Nat := g_up RC_75 31 1 (some 33)
theorem RR_76 (L : Nat) (xs : Nat → Int32) : (MC_76 L xs).2.2.2 = RC_76 := mR_Rr (RR_75 L xs)
theorem II_76 (L : Nat) (xs : Nat → Int32) : ∀ i, i ≠ 0 → (MC_76 L xs).2.1 i = IC_75 i := mR_In (II_75 L xs)
theorem LL_76 (L : Nat) (xs : Nat → Int32) : ∀ i k, (MC_76 L xs).2.2.1 i k = 0 := mR_Ln (LL_75 L xs)
def MC_77 (L : Nat) (xs : Nat → Int32) : gM := nw (20, 7) (MC_76 L xs)
theorem NW_77 (L : Nat) (xs : Nat → Int32) : nw (20, 7) (MC_76 L xs) = MC_77 L xs := rfl
theorem KC_77 (L : Nat) (xs : Nat → Int32) : (MC_77 L xs).1 = (g_K0 L).take 35 := (nw_K _ (MC_76 L xs)).trans (by rw [KC_76]; rfl)
theorem LN_77 (L : Nat) (xs : Nat → Int32) : (MC_77 L xs).1.length = 35 := by rw [KC_77]; rfl
def RC_77 : Nat → Nat → Option Nat := g_row RC_76 34 (fun _ => none)
theorem RR_77 (L : Nat) (xs : Nat → Int32) : (MC_77 L xs).2.2.2 = RC_77 := nw_R (LN_76 L xs) (RR_76 L xs)
def IC_77 : Nat → Nat → Int32 := g_row IC_75 34 (fun _ => 0)
theorem II_77 (L : Nat) (xs : Nat → Int32) : ∀ i, i ≠ 0 → (MC_77 L xs).2.1 i = IC_77 i := nw_I (LN_76 L xs) (II_76 L xs)
theorem LL_77 (L : Nat) (xs : Nat → Int32) : ∀ i k, (MC_77 L xs).2.2.1 i k = 0 := nw_L (LL_76 L xs)
def MC_78 (L : Nat) (xs : Nat → Int32) : gM := mR (MC_77 L xs) 31 2 (some 34)
theorem ST_78 (L : Nat) (xs : Nat → Int32) : pR 8 (MC_77 L xs) (some 31) 2 (some 34) = some (MC_78 L xs) := pR_of (by unfold g_k; rw [KC_77]; rfl)
theorem KC_78 (L : Nat) (xs : Nat → Int32) : (MC_78 L xs).1 = (g_K0 L).take 35 := (mR_K (MC_77 L xs) _ _ _).trans (KC_77 L xs)
theorem LN_78 (L : Nat) (xs : Nat → Int32) : (MC_78 L xs).1.length = 35 := by rw [KC_78]; rfl
def RC_78 : Nat → Nat → Option Nat := g_up RC_77 31 2 (some 34)
theorem RR_78 (L : Nat) (xs : Nat → Int32) : (MC_78 L xs).2.2.2 = RC_78 := mR_Rr (RR_77 L xs)
theorem II_78 (L : Nat) (xs : Nat → Int32) : ∀ i, i ≠ 0 → (MC_78 L xs).2.1 i = IC_77 i := mR_In (II_77 L xs)
theorem LL_78 (L : Nat) (xs : Nat → Int32) : ∀ i k, (MC_78 L xs).2.2.1 i k = 0 := mR_Ln (LL_77 L xs)
def MC_79 (L : Nat) (xs : Nat → Int32) : gM := nw (20, 7) (MC_78 L xs)
theorem NW_79 (L : Nat) (xs : Nat → Int32) : nw (20, 7) (MC_78 L xs) = MC_79 L xs := rfl
theorem KC_79 (L : Nat) (xs : Nat → Int32) : (MC_79 L xs).1 = (g_K0 L).take 36 := (nw_K _ (MC_78 L xs)).trans (by rw [KC_78]; rfl)
theorem LN_79 (L : Nat) (xs : Nat → Int32) : (MC_79 L xs).1.length = 36 := by rw [KC_79]; rfl
def RC_79 : Nat → Nat → Option Nat := g_row RC_78 35 (fun _ => none)
theorem RR_79 (L : Nat) (xs : Nat → Int32) : (MC_79 L xs).2.2.2 = RC_79 := nw_R (LN_78 L xs) (RR_78 L xs)
def IC_79 : Nat → Nat → Int32 := g_row IC_77 35 (fun _ => 0)
theorem II_79 (L : Nat) (xs : Nat → Int32) : ∀ i, i ≠ 0 → (MC_79 L xs).2.1 i = IC_79 i := nw_I (LN_78 L xs) (II_78 L xs)
theorem LL_79 (L : Nat) (xs : Nat → Int32) : ∀ i k, (MC_79 L xs).2.2.1 i k = 0 := nw_L (LL_78 L xs)
