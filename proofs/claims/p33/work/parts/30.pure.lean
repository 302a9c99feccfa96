def g_M0 (L : Nat) (xs : Nat → Int32) : gM := ([(30, L), (31, 0)], fun i k => if i = 0 then xs k else 0, fun _ _ => 0, fun _ _ => none)
theorem mI_K (M : gM) (i k : Nat) (v : Int32) : (mI M i k v).1 = M.1 := rfl
theorem mL_K (M : gM) (i k : Nat) (v : Int64) : (mL M i k v).1 = M.1 := rfl
theorem mR_K (M : gM) (i k : Nat) (v : Option Nat) : (mR M i k v).1 = M.1 := rfl
theorem nw_K (q : Nat × Nat) (M : gM) : (nw q M).1 = M.1 ++ [q] := rfl
theorem mI_Rn (M : gM) (i k : Nat) (v : Int32) : (mI M i k v).2.2.2 = M.2.2.2 := rfl
theorem nw_R {M : gM} {q : Nat × Nat} {n : Nat} {F : Nat → Nat → Option Nat} (hl : M.1.length = n) (h : M.2.2.2 = F) : (nw q M).2.2.2 = g_row F n (fun _ => none) := by subst hl; subst h; rfl
theorem nw_I {M : gM} {q : Nat × Nat} {n : Nat} {F : Nat → Nat → Int32} (hl : M.1.length = n) (h : ∀ i, i ≠ 0 → M.2.1 i = F i) : ∀ i, i ≠ 0 → (nw q M).2.1 i = g_row F n (fun _ => 0) i := by
  intro i hi
  subst hl
  funext k
  show g_row M.2.1 M.1.length (fun _ => (0 : Int32)) i k = g_row F M.1.length (fun _ => (0 : Int32)) i k
  unfold g_row
  rw [h i hi]
theorem nw_L {M : gM} {q : Nat × Nat} (h : ∀ i k, M.2.2.1 i k = 0) : ∀ i k, (nw q M).2.2.1 i k = 0 := by
  intro i k
  show g_row M.2.2.1 M.1.length (fun _ => (0 : Int64)) i k = 0
  unfold g_row
  split
  · rfl
  · exact h i k
theorem mR_Rr {M : gM} {i k : Nat} {v : Option Nat} {F : Nat → Nat → Option Nat} (h : M.2.2.2 = F) : (mR M i k v).2.2.2 = g_up F i k v := by subst h; rfl
theorem mI_I {M : gM} {a k : Nat} {v : Int32} {F : Nat → Nat → Int32} (h : ∀ i, i ≠ 0 → M.2.1 i = F i) : ∀ i, i ≠ 0 → (mI M a k v).2.1 i = g_up F a k v i := by
  intro i hi
  funext b
  show g_up M.2.1 _ _ _ i b = _
  unfold g_up
  rw [h i hi]
theorem mR_In {M : gM} {a k : Nat} {v : Option Nat} {F : Nat → Nat → Int32} (h : ∀ i, i ≠ 0 → M.2.1 i = F i) : ∀ i, i ≠ 0 → (mR M a k v).2.1 i = F i := h
theorem mI_Ln {M : gM} {a b : Nat} {v : Int32} (h : ∀ i k, M.2.2.1 i k = 0) : ∀ i k, (mI M a b v).2.2.1 i k = 0 := h
theorem mR_Ln {M : gM} {a b : Nat} {v : Option Nat} (h : ∀ i k, M.2.2.1 i k = 0) : ∀ i k, (mR M a b v).2.2.1 i k = 0 := h
theorem g_bs {α β : Type} {o : Option α} {f : α → Option β} {a : α} {r : Option β} (h : o = some a) (h2 : f a = r) : o.bind f = r := by subst h; exact h2
theorem gR_of {c i k : Nat} {M : gM} {v : Option Nat} (h : g_k M i = (c, 0)) (hv : M.2.2.2 i k = v) : gR c M (some i) k = some v := by
  unfold gR
  rw [Option.bind_some, if_pos h, hv]
theorem pR_of {c i k : Nat} {M : gM} {v : Option Nat} (h : g_k M i = (c, 0)) : pR c M (some i) k v = some (mR M i k v) := by
  unfold pR
  rw [Option.bind_some, if_pos h]
theorem pI_of {c i k : Nat} {M : gM} {v : Int32} (h : g_k M i = (c, 0)) : pI c M (some i) k v = some (mI M i k v) := by
  unfold pI
  rw [Option.bind_some, if_pos h]
theorem pL_of {c i k : Nat} {M : gM} {v : Int64} (h : g_k M i = (c, 0)) : pL c M (some i) k v = some (mL M i k v) := by
  unfold pL
  rw [Option.bind_some, if_pos h]
theorem sR_of {t i v n k : Nat} {M : gM} {j : Int32} (h : g_k M i = (t, n)) (hv : g_k M v = (g_el t, 0)) (hj : gin j n = true) (hk : j.toNatClampNeg = k) : sR t M (some i) j (some v) = some (mR M i k (some v)) := by
  unfold sR
  subst hk
  rw [Option.bind_some, Option.bind_some, if_pos ⟨⟨by rw [h], by rw [h]; exact hj⟩, hv⟩]
/-! the two constructors run once, with numbers (written by program) -/
def MC_0 (L : Nat) (xs : Nat → Int32) : gM := g_M0 L xs
theorem LN_0 (L : Nat) (xs : Nat → Int32) : (MC_0 L xs).1.length = 2 := rfl
def RC_0 : Nat → Nat → Option Nat := fun _ _ => none
theorem RR_0 (L : Nat) (xs : Nat → Int32) : (MC_0 L xs).2.2.2 = RC_0 := rfl
def IC_0 : Nat → Nat → Int32 := fun _ _ => 0
theorem II_0 (L : Nat) (xs : Nat → Int32) : ∀ i, i ≠ 0 → (MC_0 L xs).2.1 i = IC_0 i := fun i h => by funext k; show (if i = 0 then _ else _) = _; rw [if_neg h]; rfl
theorem LL_0 (L : Nat) (xs : Nat → Int32) : ∀ i k, (MC_0 L xs).2.2.1 i k = 0 := fun _ _ => rfl
def g_K0 (L : Nat) : List (Nat × Nat) := [(30, L), (31, 0), (11, 0), (25, 6), (10, 0), (20, 49), (5, 0), (21, 32), (21, 14), (8, 0), (20, 49), (20, 49), (20, 7), (20, 7), (8, 0), (20, 49), (20, 49), (20, 7), (20, 7), (4, 0), (24, 20), (8, 0), (20, 49), (20, 49), (20, 7), (20, 7), (8, 0), (20, 49), (20, 49), (20, 7), (20, 7), (8, 0), (20, 49), (20, 49), (20, 7), (20, 7), (8, 0), (20, 49), (20, 49), (20, 7), (20, 7), (8, 0), (20, 49), (20, 49), (20, 7), (20, 7), (8, 0), (20, 49), (20, 49), (20, 7), (20, 7), (8, 0), (20, 49), (20, 49), (20, 7), (20, 7), (8, 0), (20, 49), (20, 49), (20, 7), (20, 7), (8, 0), (20, 49), (20, 49), (20, 7), (20, 7), (8, 0), (20, 49), (20, 49), (20, 7), (20, 7), (8, 0), (20, 49), (20, 49), (20, 7), (20, 7), (8, 0), (20, 49), (20, 49), (20, 7), (20, 7), (8, 0), (20, 49), (20, 49), (20, 7), (20, 7), (8, 0), (20, 49), (20, 49), (20, 7), (20, 7), (8, 0), (20, 49), (20, 49), (20, 7), (20, 7), (8, 0), (20, 49), (20, 49), (20, 7), (20, 7), (8, 0), (20, 49), (20, 49), (20, 7), (20, 7), (8, 0), (20, 49), (20, 49), (20, 7), (20, 7), (8, 0), (20, 49), (20, 49), (20, 7), (20, 7), (8, 0), (20, 49), (20, 49), (20, 7), (20, 7), (26, 4), (20, 21), (0, 0), (21, 49), (1, 0), (20, 7), (20, 7), (20, 7), (20, 7), (20, 7), (9, 0), (22, 400), (20, 401), (20, 401), (20, 401), (2, 0), (1, 0), (20, 7), (20, 7), (20, 7), (20, 7), (20, 7), (8, 0), (20, 49), (20, 49), (20, 7), (20, 7), (7, 0), (20, 400), (20, 36), (3, 0), (8, 0), (20, 49), (20, 49), (20, 7), (20, 7), (3, 0), (8, 0), (20, 49), (20, 49), (20, 7), (20, 7), (3, 0), (8, 0), (20, 49), (20, 49), (20, 7), (20, 7), (3, 0), (8, 0), (20, 49), (20, 49), (20, 7), (20, 7), (12, 0), (22, 400), (20, 2400), (20, 7), (20, 288), (20, 6), (20, 157), (20, 400), (21, 64), (21, 14), (20, 157), (20, 49), (20, 3140), (20, 157), (20, 7), (20, 56), (20, 100), (20, 100), (20, 628), (20, 4), (20, 4), (23, 4)]
theorem KC_0 (L : Nat) (xs : Nat → Int32) : (MC_0 L xs).1 = (g_K0 L).take 2 := rfl
def MC_1 (L : Nat) (xs : Nat → Int32) : gM := nw (11, 0) (MC_0 L xs)
theorem NW_1 (L : Nat) (xs : Nat → Int32) : nw (11, 0) (MC_0 L xs) = MC_1 L xs := rfl
set_option maxRecDepth 20000 in
theorem KC_1 (L : Nat) (xs : Nat → Int32) : (MC_1 L xs).1 = (g_K0 L).take 3 := (nw_K _ (MC_0 L xs)).trans (by rw [KC_0]; rfl)
set_option maxRecDepth 20000 in
theorem LN_1 (L : Nat) (xs : Nat → Int32) : (MC_1 L xs).1.length = 3 := by rw [KC_1]; rfl
def RC_1 : Nat → Nat → Option Nat := g_row RC_0 2 (fun _ => none)
theorem RR_1 (L : Nat) (xs : Nat → Int32) : (MC_1 L xs).2.2.2 = RC_1 := nw_R (LN_0 L xs) (RR_0 L xs)
def IC_1 : Nat → Nat → Int32 := g_row IC_0 2 (fun _ => 0)
theorem II_1 (L : Nat) (xs : Nat → Int32) : ∀ i, i ≠ 0 → (MC_1 L xs).2.1 i = IC_1 i := nw_I (LN_0 L xs) (II_0 L xs)
theorem LL_1 (L : Nat) (xs : Nat → Int32) : ∀ i k, (MC_1 L xs).2.2.1 i k = 0 := nw_L (LL_0 L xs)
def MC_2 (L : Nat) (xs : Nat → Int32) : gM := nw (25, 6) (MC_1 L xs)
theorem NW_2 (L : Nat) (xs : Nat → Int32) : nw (25, 6) (MC_1 L xs) = MC_2 L xs := rfl
set_option maxRecDepth 20000 in
theorem KC_2 (L : Nat) (xs : Nat → Int32) : (MC_2 L xs).1 = (g_K0 L).take 4 := (nw_K _ (MC_1 L xs)).trans (by rw [KC_1]; rfl)
set_option maxRecDepth 20000 in
theorem LN_2 (L : Nat) (xs : Nat → Int32) : (MC_2 L xs).1.length = 4 := by rw [KC_2]; rfl
def RC_2 : Nat → Nat → Option Nat := g_row RC_1 3 (fun _ => none)
theorem RR_2 (L : Nat) (xs : Nat → Int32) : (MC_2 L xs).2.2.2 = RC_2 := nw_R (LN_1 L xs) (RR_1 L xs)
def IC_2 : Nat → Nat → Int32 := g_row IC_1 3 (fun _ => 0)
theorem II_2 (L : Nat) (xs : Nat → Int32) : ∀ i, i ≠ 0 → (MC_2 L xs).2.1 i = IC_2 i := nw_I (LN_1 L xs) (II_1 L xs)
theorem LL_2 (L : Nat) (xs : Nat → Int32) : ∀ i k, (MC_2 L xs).2.2.1 i k = 0 := nw_L (LL_1 L xs)
def MC_3 (L : Nat) (xs : Nat → Int32) : gM := mR (MC_2 L xs) 2 3 (some 3)
set_option maxRecDepth 20000 in
theorem ST_3 (L : Nat) (xs : Nat → Int32) : pR 11 (MC_2 L xs) (some 2) 3 (some 3) = some (MC_3 L xs) := pR_of (by unfold g_k; rw [KC_2]; rfl)
theorem KC_3 (L : Nat) (xs : Nat → Int32) : (MC_3 L xs).1 = (g_K0 L).take 4 := (mR_K (MC_2 L xs) _ _ _).trans (KC_2 L xs)
set_option maxRecDepth 20000 in
theorem LN_3 (L : Nat) (xs : Nat → Int32) : (MC_3 L xs).1.length = 4 := by rw [KC_3]; rfl
def RC_3 : Nat → Nat → Option Nat := g_up RC_2 2 3 (some 3)
theorem RR_3 (L : Nat) (xs : Nat → Int32) : (MC_3 L xs).2.2.2 = RC_3 := mR_Rr (RR_2 L xs)
theorem II_3 (L : Nat) (xs : Nat → Int32) : ∀ i, i ≠ 0 → (MC_3 L xs).2.1 i = IC_2 i := mR_In (II_2 L xs)
theorem LL_3 (L : Nat) (xs : Nat → Int32) : ∀ i k, (MC_3 L xs).2.2.1 i k = 0 := mR_Ln (LL_2 L xs)
def MC_4 (L : Nat) (xs : Nat → Int32) : gM := nw (10, 0) (MC_3 L xs)
theorem NW_4 (L : Nat) (xs : Nat → Int32) : nw (10, 0) (MC_3 L xs) = MC_4 L xs := rfl
set_option maxRecDepth 20000 in
theorem KC_4 (L : Nat) (xs : Nat → Int32) : (MC_4 L xs).1 = (g_K0 L).take 5 := (nw_K _ (MC_3 L xs)).trans (by rw [KC_3]; rfl)
set_option maxRecDepth 20000 in
theorem LN_4 (L : Nat) (xs : Nat → Int32) : (MC_4 L xs).1.length = 5 := by rw [KC_4]; rfl
def RC_4 : Nat → Nat → Option Nat := g_row RC_3 4 (fun _ => none)
theorem RR_4 (L : Nat) (xs : Nat → Int32) : (MC_4 L xs).2.2.2 = RC_4 := nw_R (LN_3 L xs) (RR_3 L xs)
def IC_4 : Nat → Nat → Int32 := g_row IC_2 4 (fun _ => 0)
theorem II_4 (L : Nat) (xs : Nat → Int32) : ∀ i, i ≠ 0 → (MC_4 L xs).2.1 i = IC_4 i := nw_I (LN_3 L xs) (II_3 L xs)
theorem LL_4 (L : Nat) (xs : Nat → Int32) : ∀ i k, (MC_4 L xs).2.2.1 i k = 0 := nw_L (LL_3 L xs)
def MC_5 (L : Nat) (xs : Nat → Int32) : gM := nw (20, 49) (MC_4 L xs)
theorem NW_5 (L : Nat) (xs : Nat → Int32) : nw (20, 49) (MC_4 L xs) = MC_5 L xs := rfl
set_option maxRecDepth 20000 in
theorem KC_5 (L : Nat) (xs : Nat → Int32) : (MC_5 L xs).1 = (g_K0 L).take 6 := (nw_K _ (MC_4 L xs)).trans (by rw [KC_4]; rfl)
set_option maxRecDepth 20000 in
theorem LN_5 (L : Nat) (xs : Nat → Int32) : (MC_5 L xs).1.length = 6 := by rw [KC_5]; rfl
def RC_5 : Nat → Nat → Option Nat := g_row RC_4 5 (fun _ => none)
theorem RR_5 (L : Nat) (xs : Nat → Int32) : (MC_5 L xs).2.2.2 = RC_5 := nw_R (LN_4 L xs) (RR_4 L xs)
def IC_5 : Nat → Nat → Int32 := g_row IC_4 5 (fun _ => 0)
theorem II_5 (L : Nat) (xs : Nat → Int32) : ∀ i, i ≠ 0 → (MC_5 L xs).2.1 i = IC_5 i := nw_I (LN_4 L xs) (II_4 L xs)
theorem LL_5 (L : Nat) (xs : Nat → Int32) : ∀ i k, (MC_5 L xs).2.2.1 i k = 0 := nw_L (LL_4 L xs)
def MC_6 (L : Nat) (xs : Nat → Int32) : gM := mR (MC_5 L xs) 4 0 (some 5)
set_option maxRecDepth 20000 in
theorem ST_6 (L : Nat) (xs : Nat → Int32) : pR 10 (MC_5 L xs) (some 4) 0 (some 5) = some (MC_6 L xs) := pR_of (by unfold g_k; rw [KC_5]; rfl)
theorem KC_6 (L : Nat) (xs : Nat → Int32) : (MC_6 L xs).1 = (g_K0 L).take 6 := (mR_K (MC_5 L xs) _ _ _).trans (KC_5 L xs)
set_option maxRecDepth 20000 in
theorem LN_6 (L : Nat) (xs : Nat → Int32) : (MC_6 L xs).1.length = 6 := by rw [KC_6]; rfl
def RC_6 : Nat → Nat → Option Nat := g_up RC_5 4 0 (some 5)
theorem RR_6 (L : Nat) (xs : Nat → Int32) : (MC_6 L xs).2.2.2 = RC_6 := mR_Rr (RR_5 L xs)
theorem II_6 (L : Nat) (xs : Nat → Int32) : ∀ i, i ≠ 0 → (MC_6 L xs).2.1 i = IC_5 i := mR_In (II_5 L xs)
theorem LL_6 (L : Nat) (xs : Nat → Int32) : ∀ i k, (MC_6 L xs).2.2.1 i k = 0 := mR_Ln (LL_5 L xs)
def MC_7 (L : Nat) (xs : Nat → Int32) : gM := nw (5, 0) (MC_6 L xs)
theorem NW_7 (L : Nat) (xs : Nat → Int32) : nw (5, 0) (MC_6 L xs) = MC_7 L xs := rfl
set_option maxRecDepth 20000 in
theorem KC_7 (L : Nat) (xs : Nat → Int32) : (MC_7 L xs).1 = (g_K0 L).take 7 := (nw_K _ (MC_6 L xs)).trans (by rw [KC_6]; rfl)
set_option maxRecDepth 20000 in
theorem LN_7 (L : Nat) (xs : Nat → Int32) : (MC_7 L xs).1.length = 7 := by rw [KC_7]; rfl
def RC_7 : Nat → Nat → Option Nat := g_row RC_6 6 (fun _ => none)
theorem RR_7 (L : Nat) (xs : Nat → Int32) : (MC_7 L xs).2.2.2 = RC_7 := nw_R (LN_6 L xs) (RR_6 L xs)
def IC_7 : Nat → Nat → Int32 := g_row IC_5 6 (fun _ => 0)
theorem II_7 (L : Nat) (xs : Nat → Int32) : ∀ i, i ≠ 0 → (MC_7 L xs).2.1 i = IC_7 i := nw_I (LN_6 L xs) (II_6 L xs)
theorem LL_7 (L : Nat) (xs : Nat → Int32) : ∀ i k, (MC_7 L xs).2.2.1 i k = 0 := nw_L (LL_6 L xs)
def MC_8 (L : Nat) (xs : Nat → Int32) : gM := nw (21, 32) (MC_7 L xs)
theorem NW_8 (L : Nat) (xs : Nat → Int32) : nw (21, 32) (MC_7 L xs) = MC_8 L xs := rfl
set_option maxRecDepth 20000 in
theorem KC_8 (L : Nat) (xs : Nat → Int32) : (MC_8 L xs).1 = (g_K0 L).take 8 := (nw_K _ (MC_7 L xs)).trans (by rw [KC_7]; rfl)
set_option maxRecDepth 20000 in
theorem LN_8 (L : Nat) (xs : Nat → Int32) : (MC_8 L xs).1.length = 8 := by rw [KC_8]; rfl
def RC_8 : Nat → Nat → Option Nat := g_row RC_7 7 (fun _ => none)
theorem RR_8 (L : Nat) (xs : Nat → Int32) : (MC_8 L xs).2.2.2 = RC_8 := nw_R (LN_7 L xs) (RR_7 L xs)
def IC_8 : Nat → Nat → Int32 := g_row IC_7 7 (fun _ => 0)
theorem II_8 (L : Nat) (xs : Nat → Int32) : ∀ i, i ≠ 0 → (MC_8 L xs).2.1 i = IC_8 i := nw_I (LN_7 L xs) (II_7 L xs)
theorem LL_8 (L : Nat) (xs : Nat → Int32) : ∀ i k, (MC_8 L xs).2.2.1 i k = 0 := nw_L (LL_7 L xs)
def MC_9 (L : Nat) (xs : Nat → Int32) : gM := mR (MC_8 L xs) 6 0 (some 7)
set_option maxRecDepth 20000 in
theorem ST_9 (L : Nat) (xs : Nat → Int32) : pR 5 (MC_8 L xs) (some 6) 0 (some 7) = some (MC_9 L xs) := pR_of (by unfold g_k; rw [KC_8]; rfl)
theorem KC_9 (L : Nat) (xs : Nat → Int32) : (MC_9 L xs).1 = (g_K0 L).take 8 := (mR_K (MC_8 L xs) _ _ _).trans (KC_8 L xs)
set_option maxRecDepth 20000 in
theorem LN_9 (L : Nat) (xs : Nat → Int32) : (MC_9 L xs).1.length = 8 := by rw [KC_9]; rfl
def RC_9 : Nat → Nat → Option Nat := g_up RC_8 6 0 (some 7)
theorem RR_9 (L : Nat) (xs : Nat → Int32) : (MC_9 L xs).2.2.2 = RC_9 := mR_Rr (RR_8 L xs)
theorem II_9 (L : Nat) (xs : Nat → Int32) : ∀ i, i ≠ 0 → (MC_9 L xs).2.1 i = IC_8 i := mR_In (II_8 L xs)
theorem LL_9 (L : Nat) (xs : Nat → Int32) : ∀ i k, (MC_9 L xs).2.2.1 i k = 0 := mR_Ln (LL_8 L xs)
def MC_10 (L : Nat) (xs : Nat → Int32) : gM := nw (21, 14) (MC_9 L xs)
theorem NW_10 (L : Nat) (xs : Nat → Int32) : nw (21, 14) (MC_9 L xs) = MC_10 L xs := rfl
set_option maxRecDepth 20000 in
theorem KC_10 (L : Nat) (xs : Nat → Int32) : (MC_10 L xs).1 = (g_K0 L).take 9 := (nw_K _ (MC_9 L xs)).trans (by rw [KC_9]; rfl)
set_option maxRecDepth 20000 in
theorem LN_10 (L : Nat) (xs : Nat → Int32) : (MC_10 L xs).1.length = 9 := by rw [KC_10]; rfl
def RC_10 : Nat → Nat → Option Nat := g_row RC_9 8 (fun _ => none)
theorem RR_10 (L : Nat) (xs : Nat → Int32) : (MC_10 L xs).2.2.2 = RC_10 := nw_R (LN_9 L xs) (RR_9 L xs)
def IC_10 : Nat → Nat → Int32 := g_row IC_8 8 (fun _ => 0)
theorem II_10 (L : Nat) (xs : Nat → Int32) : ∀ i, i ≠ 0 → (MC_10 L xs).2.1 i = IC_10 i := nw_I (LN_9 L xs) (II_9 L xs)
theorem LL_10 (L : Nat) (xs : Nat → Int32) : ∀ i k, (MC_10 L xs).2.2.1 i k = 0 := nw_L (LL_9 L xs)
def MC_11 (L : Nat) (xs : Nat → Int32) : gM := mR (MC_10 L xs) 6 1 (some 8)
set_option maxRecDepth 20000 in
theorem ST_11 (L : Nat) (xs : Nat → Int32) : pR 5 (MC_10 L xs) (some 6) 1 (some 8) = some (MC_11 L xs) := pR_of (by unfold g_k; rw [KC_10]; rfl)
theorem KC_11 (L : Nat) (xs : Nat → Int32) : (MC_11 L xs).1 = (g_K0 L).take 9 := (mR_K (MC_10 L xs) _ _ _).trans (KC_10 L xs)
set_option maxRecDepth 20000 in
theorem LN_11 (L : Nat) (xs : Nat → Int32) : (MC_11 L xs).1.length = 9 := by rw [KC_11]; rfl
def RC_11 : Nat → Nat → Option Nat := g_up RC_10 6 1 (some 8)
theorem RR_11 (L : Nat) (xs : Nat → Int32) : (MC_11 L xs).2.2.2 = RC_11 := mR_Rr (RR_10 L xs)
theorem II_11 (L : Nat) (xs : Nat → Int32) : ∀ i, i ≠ 0 → (MC_11 L xs).2.1 i = IC_10 i := mR_In (II_10 L xs)
theorem LL_11 (L : Nat) (xs : Nat → Int32) : ∀ i k, (MC_11 L xs).2.2.1 i k = 0 := mR_Ln (LL_10 L xs)
def MC_12 (L : Nat) (xs : Nat → Int32) : gM := mI (MC_11 L xs) 6 2 (0 : Int32)
set_option maxRecDepth 20000 in
theorem ST_12 (L : Nat) (xs : Nat → Int32) : pI 5 (MC_11 L xs) (some 6) 2 (0 : Int32) = some (MC_12 L xs) := pI_of (by unfold g_k; rw [KC_11]; rfl)
theorem KC_12 (L : Nat) (xs : Nat → Int32) : (MC_12 L xs).1 = (g_K0 L).take 9 := (mI_K (MC_11 L xs) _ _ _).trans (KC_11 L xs)
set_option maxRecDepth 20000 in
theorem LN_12 (L : Nat) (xs : Nat → Int32) : (MC_12 L xs).1.length = 9 := by rw [KC_12]; rfl
theorem RR_12 (L : Nat) (xs : Nat → Int32) : (MC_12 L xs).2.2.2 = RC_11 := (mI_Rn (MC_11 L xs) _ _ _).trans (RR_11 L xs)
def IC_12 : Nat → Nat → Int32 := g_up IC_10 6 2 (0)
theorem II_12 (L : Nat) (xs : Nat → Int32) : ∀ i, i ≠ 0 → (MC_12 L xs).2.1 i = IC_12 i := mI_I (II_11 L xs)
theorem LL_12 (L : Nat) (xs : Nat → Int32) : ∀ i k, (MC_12 L xs).2.2.1 i k = 0 := mI_Ln (LL_11 L xs)
def MC_13 (L : Nat) (xs : Nat → Int32) : gM := mR (MC_12 L xs) 4 1 (some 6)
set_option maxRecDepth 20000 in
theorem ST_13 (L : Nat) (xs : Nat → Int32) : pR 10 (MC_12 L xs) (some 4) 1 (some 6) = some (MC_13 L xs) := pR_of (by unfold g_k; rw [KC_12]; rfl)
theorem KC_13 (L : Nat) (xs : Nat → Int32) : (MC_13 L xs).1 = (g_K0 L).take 9 := (mR_K (MC_12 L xs) _ _ _).trans (KC_12 L xs)
set_option maxRecDepth 20000 in
theorem LN_13 (L : Nat) (xs : Nat → Int32) : (MC_13 L xs).1.length = 9 := by rw [KC_13]; rfl
def RC_13 : Nat → Nat → Option Nat := g_up RC_11 4 1 (some 6)
theorem RR_13 (L : Nat) (xs : Nat → Int32) : (MC_13 L xs).2.2.2 = RC_13 := mR_Rr (RR_12 L xs)
theorem II_13 (L : Nat) (xs : Nat → Int32) : ∀ i, i ≠ 0 → (MC_13 L xs).2.1 i = IC_12 i := mR_In (II_12 L xs)
theorem LL_13 (L : Nat) (xs : Nat → Int32) : ∀ i k, (MC_13 L xs).2.2.1 i k = 0 := mR_Ln (LL_12 L xs)
def MC_14 (L : Nat) (xs : Nat → Int32) : gM := mR (MC_13 L xs) 2 4 (some 4)
set_option maxRecDepth 20000 in
theorem ST_14 (L : Nat) (xs : Nat → Int32) : pR 11 (MC_13 L xs) (some 2) 4 (some 4) = some (MC_14 L xs) := pR_of (by unfold g_k; rw [KC_13]; rfl)
theorem KC_14 (L : Nat) (xs : Nat → Int32) : (MC_14 L xs).1 = (g_K0 L).take 9 := (mR_K (MC_13 L xs) _ _ _).trans (KC_13 L xs)
set_option maxRecDepth 20000 in
theorem LN_14 (L : Nat) (xs : Nat → Int32) : (MC_14 L xs).1.length = 9 := by rw [KC_14]; rfl
def RC_14 : Nat → Nat → Option Nat := g_up RC_13 2 4 (some 4)
theorem RR_14 (L : Nat) (xs : Nat → Int32) : (MC_14 L xs).2.2.2 = RC_14 := mR_Rr (RR_13 L xs)
theorem II_14 (L : Nat) (xs : Nat → Int32) : ∀ i, i ≠ 0 → (MC_14 L xs).2.1 i = IC_12 i := mR_In (II_13 L xs)
theorem LL_14 (L : Nat) (xs : Nat → Int32) : ∀ i k, (MC_14 L xs).2.2.1 i k = 0 := mR_Ln (LL_13 L xs)
def MC_15 (L : Nat) (xs : Nat → Int32) : gM := nw (8, 0) (MC_14 L xs)
theorem NW_15 (L : Nat) (xs : Nat → Int32) : nw (8, 0) (MC_14 L xs) = MC_15 L xs := rfl
set_option maxRecDepth 20000 in
theorem KC_15 (L : Nat) (xs : Nat → Int32) : (MC_15 L xs).1 = (g_K0 L).take 10 := (nw_K _ (MC_14 L xs)).trans (by rw [KC_14]; rfl)
set_option maxRecDepth 20000 in
theorem LN_15 (L : Nat) (xs : Nat → Int32) : (MC_15 L xs).1.length = 10 := by rw [KC_15]; rfl
def RC_15 : Nat → Nat → Option Nat := g_row RC_14 9 (fun _ => none)
theorem RR_15 (L : Nat) (xs : Nat → Int32) : (MC_15 L xs).2.2.2 = RC_15 := nw_R (LN_14 L xs) (RR_14 L xs)
def IC_15 : Nat → Nat → Int32 := g_row IC_12 9 (fun _ => 0)
theorem II_15 (L : Nat) (xs : Nat → Int32) : ∀ i, i ≠ 0 → (MC_15 L xs).2.1 i = IC_15 i := nw_I (LN_14 L xs) (II_14 L xs)
theorem LL_15 (L : Nat) (xs : Nat → Int32) : ∀ i k, (MC_15 L xs).2.2.1 i k = 0 := nw_L (LL_14 L xs)
def MC_16 (L : Nat) (xs : Nat → Int32) : gM := nw (20, 49) (MC_15 L xs)
theorem NW_16 (L : Nat) (xs : Nat → Int32) : nw (20, 49) (MC_15 L xs) = MC_16 L xs := rfl
set_option maxRecDepth 20000 in
theorem KC_16 (L : Nat) (xs : Nat → Int32) : (MC_16 L xs).1 = (g_K0 L).take 11 := (nw_K _ (MC_15 L xs)).trans (by rw [KC_15]; rfl)
set_option maxRecDepth 20000 in
theorem LN_16 (L : Nat) (xs : Nat → Int32) : (MC_16 L xs).1.length = 11 := by rw [KC_16]; rfl
def RC_16 : Nat → Nat → Option Nat := g_row RC_15 10 (fun _ => none)
theorem RR_16 (L : Nat) (xs : Nat → Int32) : (MC_16 L xs).2.2.2 = RC_16 := nw_R (LN_15 L xs) (RR_15 L xs)
def IC_16 : Nat → Nat → Int32 := g_row IC_15 10 (fun _ => 0)
theorem II_16 (L : Nat) (xs : Nat → Int32) : ∀ i, i ≠ 0 → (MC_16 L xs).2.1 i = IC_16 i := nw_I (LN_15 L xs) (II_15 L xs)
theorem LL_16 (L : Nat) (xs : Nat → Int32) : ∀ i k, (MC_16 L xs).2.2.1 i k = 0 := nw_L (LL_15 L xs)
def MC_17 (L : Nat) (xs : Nat → Int32) : gM := mR (MC_16 L xs) 9 0 (some 10)
set_option maxRecDepth 20000 in
theorem ST_17 (L : Nat) (xs : Nat → Int32) : pR 8 (MC_16 L xs) (some 9) 0 (some 10) = some (MC_17 L xs) := pR_of (by unfold g_k; rw [KC_16]; rfl)
theorem KC_17 (L : Nat) (xs : Nat → Int32) : (MC_17 L xs).1 = (g_K0 L).take 11 := (mR_K (MC_16 L xs) _ _ _).trans (KC_16 L xs)
set_option maxRecDepth 20000 in
theorem LN_17 (L : Nat) (xs : Nat → Int32) : (MC_17 L xs).1.length = 11 := by rw [KC_17]; rfl
def RC_17 : Nat → Nat → Option Nat := g_up RC_16 9 0 (some 10)
theorem RR_17 (L : Nat) (xs : Nat → Int32) : (MC_17 L xs).2.2.2 = RC_17 := mR_Rr (RR_16 L xs)
theorem II_17 (L : Nat) (xs : Nat → Int32) : ∀ i, i ≠ 0 → (MC_17 L xs).2.1 i = IC_16 i := mR_In (II_16 L xs)
theorem LL_17 (L : Nat) (xs : Nat → Int32) : ∀ i k, (MC_17 L xs).2.2.1 i k = 0 := mR_Ln (LL_16 L xs)
def MC_18 (L : Nat) (xs : Nat → Int32) : gM := nw (20, 49) (MC_17 L xs)
theorem NW_18 (L : Nat) (xs : Nat → Int32) : nw (20, 49) (MC_17 L xs) = MC_18 L xs := rfl
set_option maxRecDepth 20000 in
theorem KC_18 (L : Nat) (xs : Nat → Int32) : (MC_18 L xs).1 = (g_K0 L).take 12 := (nw_K _ (MC_17 L xs)).trans (by rw [KC_17]; rfl)
set_option maxRecDepth 20000 in
theorem LN_18 (L : Nat) (xs : Nat → Int32) : (MC_18 L xs).1.length = 12 := by rw [KC_18]; rfl
def RC_18 : Nat → Nat → Option Nat := g_row RC_17 11 (fun _ => none)
theorem RR_18 (L : Nat) (xs : Nat → Int32) : (MC_18 L xs).2.2.2 = RC_18 := nw_R (LN_17 L xs) (RR_17 L xs)
def IC_18 : Nat → Nat → Int32 := g_row IC_16 11 (fun _ => 0)
theorem II_18 (L : Nat) (xs : Nat → Int32) : ∀ i, i ≠ 0 → (MC_18 L xs).2.1 i = IC_18 i := nw_I (LN_17 L xs) (II_17 L xs)
theorem LL_18 (L : Nat) (xs : Nat → Int32) : ∀ i k, (MC_18 L xs).2.2.1 i k = 0 := nw_L (LL_17 L xs)
def MC_19 (L : Nat) (xs : Nat → Int32) : gM := mR (MC_18 L xs) 9 1 (some 11)
set_option maxRecDepth 20000 in
theorem ST_19 (L : Nat) (xs : Nat → Int32) : pR 8 (MC_18 L xs) (some 9) 1 (some 11) = some (MC_19 L xs) := pR_of (by unfold g_k; rw [KC_18]; rfl)
theorem KC_19 (L : Nat) (xs : Nat → Int32) : (MC_19 L xs).1 = (g_K0 L).take 12 := (mR_K (MC_18 L xs) _ _ _).trans (KC_18 L xs)
set_option maxRecDepth 20000 in
theorem LN_19 (L : Nat) (xs : Nat → Int32) : (MC_19 L xs).1.length = 12 := by rw [KC_19]; rfl
def RC_19 : Nat → Nat → Option Nat := g_up RC_18 9 1 (some 11)
theorem RR_19 (L : Nat) (xs : Nat → Int32) : (MC_19 L xs).2.2.2 = RC_19 := mR_Rr (RR_18 L xs)
theorem II_19 (L : Nat) (xs : Nat → Int32) : ∀ i, i ≠ 0 → (MC_19 L xs).2.1 i = IC_18 i := mR_In (II_18 L xs)
theorem LL_19 (L : Nat) (xs : Nat → Int32) : ∀ i k, (MC_19 L xs).2.2.1 i k = 0 := mR_Ln (LL_18 L xs)
def MC_20 (L : Nat) (xs : Nat → Int32) : gM := nw (20, 7) (MC_19 L xs)
theorem NW_20 (L : Nat) (xs : Nat → Int32) : nw (20, 7) (MC_19 L xs) = MC_20 L xs := rfl
set_option maxRecDepth 20000 in
theorem KC_20 (L : Nat) (xs : Nat → Int32) : (MC_20 L xs).1 = (g_K0 L).take 13 := (nw_K _ (MC_19 L xs)).trans (by rw [KC_19]; rfl)
set_option maxRecDepth 20000 in
theorem LN_20 (L : Nat) (xs : Nat → Int32) : (MC_20 L xs).1.length = 13 := by rw [KC_20]; rfl
def RC_20 : Nat → Nat → Option Nat := g_row RC_19 12 (fun _ => none)
theorem RR_20 (L : Nat) (xs : Nat → Int32) : (MC_20 L xs).2.2.2 = RC_20 := nw_R (LN_19 L xs) (RR_19 L xs)
def IC_20 : Nat → Nat → Int32 := g_row IC_18 12 (fun _ => 0)
theorem II_20 (L : Nat) (xs : Nat → Int32) : ∀ i, i ≠ 0 → (MC_20 L xs).2.1 i = IC_20 i := nw_I (LN_19 L xs) (II_19 L xs)
theorem LL_20 (L : Nat) (xs : Nat → Int32) : ∀ i k, (MC_20 L xs).2.2.1 i k = 0 := nw_L (LL_19 L xs)
def MC_21 (L : Nat) (xs : Nat → Int32) : gM := mR (MC_20 L xs) 9 2 (some 12)
set_option maxRecDepth 20000 in
theorem ST_21 (L : Nat) (xs : Nat → Int32) : pR 8 (MC_20 L xs) (some 9) 2 (some 12) = some (MC_21 L xs) := pR_of (by unfold g_k; rw [KC_20]; rfl)
theorem KC_21 (L : Nat) (xs : Nat → Int32) : (MC_21 L xs).1 = (g_K0 L).take 13 := (mR_K (MC_20 L xs) _ _ _).trans (KC_20 L xs)
set_option maxRecDepth 20000 in
theorem LN_21 (L : Nat) (xs : Nat → Int32) : (MC_21 L xs).1.length = 13 := by rw [KC_21]; rfl
def RC_21 : Nat → Nat → Option Nat := g_up RC_20 9 2 (some 12)
theorem RR_21 (L : Nat) (xs : Nat → Int32) : (MC_21 L xs).2.2.2 = RC_21 := mR_Rr (RR_20 L xs)
theorem II_21 (L : Nat) (xs : Nat → Int32) : ∀ i, i ≠ 0 → (MC_21 L xs).2.1 i = IC_20 i := mR_In (II_20 L xs)
theorem LL_21 (L : Nat) (xs : Nat → Int32) : ∀ i k, (MC_21 L xs).2.2.1 i k = 0 := mR_Ln (LL_20 L xs)
def MC_22 (L : Nat) (xs : Nat → Int32) : gM := nw (20, 7) (MC_21 L xs)
theorem NW_22 (L : Nat) (xs : Nat → Int32) : nw (20, 7) (MC_21 L xs) = MC_22 L xs := rfl
set_option maxRecDepth 20000 in
theorem KC_22 (L : Nat) (xs : Nat → Int32) : (MC_22 L xs).1 = (g_K0 L).take 14 := (nw_K _ (MC_21 L xs)).trans (by rw [KC_21]; rfl)
set_option maxRecDepth 20000 in
theorem LN_22 (L : Nat) (xs : Nat → Int32) : (MC_22 L xs).1.length = 14 := by rw [KC_22]; rfl
def RC_22 : Nat → Nat → Option Nat := g_row RC_21 13 (fun _ => none)
theorem RR_22 (L : Nat) (xs : Nat → Int32) : (MC_22 L xs).2.2.2 = RC_22 := nw_R (LN_21 L xs) (RR_21 L xs)
def IC_22 : Nat → Nat → Int32 := g_row IC_20 13 (fun _ => 0)
theorem II_22 (L : Nat) (xs : Nat → Int32) : ∀ i, i ≠ 0 → (MC_22 L xs).2.1 i = IC_22 i := nw_I (LN_21 L xs) (II_21 L xs)
theorem LL_22 (L : Nat) (xs : Nat → Int32) : ∀ i k, (MC_22 L xs).2.2.1 i k = 0 := nw_L (LL_21 L xs)
def MC_23 (L : Nat) (xs : Nat → Int32) : gM := mR (MC_22 L xs) 9 3 (some 13)
set_option maxRecDepth 20000 in
theorem ST_23 (L : Nat) (xs : Nat → Int32) : pR 8 (MC_22 L xs) (some 9) 3 (some 13) = some (MC_23 L xs) := pR_of (by unfold g_k; rw [KC_22]; rfl)
theorem KC_23 (L : Nat) (xs : Nat → Int32) : (MC_23 L xs).1 = (g_K0 L).take 14 := (mR_K (MC_22 L xs) _ _ _).trans (KC_22 L xs)
set_option maxRecDepth 20000 in
theorem LN_23 (L : Nat) (xs : Nat → Int32) : (MC_23 L xs).1.length = 14 := by rw [KC_23]; rfl
def RC_23 : Nat → Nat → Option Nat := g_up RC_22 9 3 (some 13)
theorem RR_23 (L : Nat) (xs : Nat → Int32) : (MC_23 L xs).2.2.2 = RC_23 := mR_Rr (RR_22 L xs)
theorem II_23 (L : Nat) (xs : Nat → Int32) : ∀ i, i ≠ 0 → (MC_23 L xs).2.1 i = IC_22 i := mR_In (II_22 L xs)
theorem LL_23 (L : Nat) (xs : Nat → Int32) : ∀ i k, (MC_23 L xs).2.2.1 i k = 0 := mR_Ln (LL_22 L xs)
def MC_24 (L : Nat) (xs : Nat → Int32) : gM := mI (MC_23 L xs) 9 4 (0 : Int32)
set_option maxRecDepth 20000 in
theorem ST_24 (L : Nat) (xs : Nat → Int32) : pI 8 (MC_23 L xs) (some 9) 4 (0 : Int32) = some (MC_24 L xs) := pI_of (by unfold g_k; rw [KC_23]; rfl)
theorem KC_24 (L : Nat) (xs : Nat → Int32) : (MC_24 L xs).1 = (g_K0 L).take 14 := (mI_K (MC_23 L xs) _ _ _).trans (KC_23 L xs)
set_option maxRecDepth 20000 in
theorem LN_24 (L : Nat) (xs : Nat → Int32) : (MC_24 L xs).1.length = 14 := by rw [KC_24]; rfl
theorem RR_24 (L : Nat) (xs : Nat → Int32) : (MC_24 L xs).2.2.2 = RC_23 := (mI_Rn (MC_23 L xs) _ _ _).trans (RR_23 L xs)
def IC_24 : Nat → Nat → Int32 := g_up IC_22 9 4 (0)
theorem II_24 (L : Nat) (xs : Nat → Int32) : ∀ i, i ≠ 0 → (MC_24 L xs).2.1 i = IC_24 i := mI_I (II_23 L xs)
theorem LL_24 (L : Nat) (xs : Nat → Int32) : ∀ i k, (MC_24 L xs).2.2.1 i k = 0 := mI_Ln (LL_23 L xs)
def MC_25 (L : Nat) (xs : Nat → Int32) : gM := mI (MC_24 L xs) 9 5 (0 : Int32)
set_option maxRecDepth 20000 in
theorem ST_25 (L : Nat) (xs : Nat → Int32) : pI 8 (MC_24 L xs) (some 9) 5 (0 : Int32) = some (MC_25 L xs) := pI_of (by unfold g_k; rw [KC_24]; rfl)
theorem KC_25 (L : Nat) (xs : Nat → Int32) : (MC_25 L xs).1 = (g_K0 L).take 14 := (mI_K (MC_24 L xs) _ _ _).trans (KC_24 L xs)
set_option maxRecDepth 20000 in
theorem LN_25 (L : Nat) (xs : Nat → Int32) : (MC_25 L xs).1.length = 14 := by rw [KC_25]; rfl
theorem RR_25 (L : Nat) (xs : Nat → Int32) : (MC_25 L xs).2.2.2 = RC_23 := (mI_Rn (MC_24 L xs) _ _ _).trans (RR_24 L xs)
def IC_25 : Nat → Nat → Int32 := g_up IC_24 9 5 (0)
theorem II_25 (L : Nat) (xs : Nat → Int32) : ∀ i, i ≠ 0 → (MC_25 L xs).2.1 i = IC_25 i := mI_I (II_24 L xs)
theorem LL_25 (L : Nat) (xs : Nat → Int32) : ∀ i k, (MC_25 L xs).2.2.1 i k = 0 := mI_Ln (LL_24 L xs)
def MC_26 (L : Nat) (xs : Nat → Int32) : gM := mI (MC_25 L xs) 9 6 (0 : Int32)
set_option maxRecDepth 20000 in
theorem ST_26 (L : Nat) (xs : Nat → Int32) : pI 8 (MC_25 L xs) (some 9) 6 (0 : Int32) = some (MC_26 L xs) := pI_of (by unfold g_k; rw [KC_25]; rfl)
theorem KC_26 (L : Nat) (xs : Nat → Int32) : (MC_26 L xs).1 = (g_K0 L).take 14 := (mI_K (MC_25 L xs) _ _ _).trans (KC_25 L xs)
set_option maxRecDepth 20000 in
theorem LN_26 (L : Nat) (xs : Nat → Int32) : (MC_26 L xs).1.length = 14 := by rw [KC_26]; rfl
theorem RR_26 (L : Nat) (xs : Nat → Int32) : (MC_26 L xs).2.2.2 = RC_23 := (mI_Rn (MC_25 L xs) _ _ _).trans (RR_25 L xs)
def IC_26 : Nat → Nat → Int32 := g_up IC_25 9 6 (0)
theorem II_26 (L : Nat) (xs : Nat → Int32) : ∀ i, i ≠ 0 → (MC_26 L xs).2.1 i = IC_26 i := mI_I (II_25 L xs)
theorem LL_26 (L : Nat) (xs : Nat → Int32) : ∀ i k, (MC_26 L xs).2.2.1 i k = 0 := mI_Ln (LL_25 L xs)
def MC_27 (L : Nat) (xs : Nat → Int32) : gM := mR (MC_26 L xs) 2 5 (some 9)
set_option maxRecDepth 20000 in
theorem ST_27 (L : Nat) (xs : Nat → Int32) : pR 11 (MC_26 L xs) (some 2) 5 (some 9) = some (MC_27 L xs) := pR_of (by unfold g_k; rw [KC_26]; rfl)
theorem KC_27 (L : Nat) (xs : Nat → Int32) : (MC_27 L xs).1 = (g_K0 L).take 14 := (mR_K (MC_26 L xs) _ _ _).trans (KC_26 L xs)
set_option maxRecDepth 20000 in
theorem LN_27 (L : Nat) (xs : Nat → Int32) : (MC_27 L xs).1.length = 14 := by rw [KC_27]; rfl
def RC_27 : Nat → Nat → Option Nat := g_up RC_23 2 5 (some 9)
theorem RR_27 (L : Nat) (xs : Nat → Int32) : (MC_27 L xs).2.2.2 = RC_27 := mR_Rr (RR_26 L xs)
theorem II_27 (L : Nat) (xs : Nat → Int32) : ∀ i, i ≠ 0 → (MC_27 L xs).2.1 i = IC_26 i := mR_In (II_26 L xs)
theorem LL_27 (L : Nat) (xs : Nat → Int32) : ∀ i k, (MC_27 L xs).2.2.1 i k = 0 := mR_Ln (LL_26 L xs)
def MC_28 (L : Nat) (xs : Nat → Int32) : gM := nw (8, 0) (MC_27 L xs)
theorem NW_28 (L : Nat) (xs : Nat → Int32) : nw (8, 0) (MC_27 L xs) = MC_28 L xs := rfl
set_option maxRecDepth 20000 in
theorem KC_28 (L : Nat) (xs : Nat → Int32) : (MC_28 L xs).1 = (g_K0 L).take 15 := (nw_K _ (MC_27 L xs)).trans (by rw [KC_27]; rfl)
set_option maxRecDepth 20000 in
theorem LN_28 (L : Nat) (xs : Nat → Int32) : (MC_28 L xs).1.length = 15 := by rw [KC_28]; rfl
def RC_28 : Nat → Nat → Option Nat := g_row RC_27 14 (fun _ => none)
theorem RR_28 (L : Nat) (xs : Nat → Int32) : (MC_28 L xs).2.2.2 = RC_28 := nw_R (LN_27 L xs) (RR_27 L xs)
def IC_28 : Nat → Nat → Int32 := g_row IC_26 14 (fun _ => 0)
theorem II_28 (L : Nat) (xs : Nat → Int32) : ∀ i, i ≠ 0 → (MC_28 L xs).2.1 i = IC_28 i := nw_I (LN_27 L xs) (II_27 L xs)
theorem LL_28 (L : Nat) (xs : Nat → Int32) : ∀ i k, (MC_28 L xs).2.2.1 i k = 0 := nw_L (LL_27 L xs)
def MC_29 (L : Nat) (xs : Nat → Int32) : gM := nw (20, 49) (MC_28 L xs)
theorem NW_29 (L : Nat) (xs : Nat → Int32) : nw (20, 49) (MC_28 L xs) = MC_29 L xs := rfl
set_option maxRecDepth 20000 in
theorem KC_29 (L : Nat) (xs : Nat → Int32) : (MC_29 L xs).1 = (g_K0 L).take 16 := (nw_K _ (MC_28 L xs)).trans (by rw [KC_28]; rfl)
set_option maxRecDepth 20000 in
theorem LN_29 (L : Nat) (xs : Nat → Int32) : (MC_29 L xs).1.length = 16 := by rw [KC_29]; rfl
def RC_29 : Nat → Nat → Option Nat := g_row RC_28 15 (fun _ => none)
theorem RR_29 (L : Nat) (xs : Nat → Int32) : (MC_29 L xs).2.2.2 = RC_29 := nw_R (LN_28 L xs) (RR_28 L xs)
def IC_29 : Nat → Nat → Int32 := g_row IC_28 15 (fun _ => 0)
theorem II_29 (L : Nat) (xs : Nat → Int32) : ∀ i, i ≠ 0 → (MC_29 L xs).2.1 i = IC_29 i := nw_I (LN_28 L xs) (II_28 L xs)
theorem LL_29 (L : Nat) (xs : Nat → Int32) : ∀ i k, (MC_29 L xs).2.2.1 i k = 0 := nw_L (LL_28 L xs)
def MC_30 (L : Nat) (xs : Nat → Int32) : gM := mR (MC_29 L xs) 14 0 (some 15)
set_option maxRecDepth 20000 in
theorem ST_30 (L : Nat) (xs : Nat → Int32) : pR 8 (MC_29 L xs) (some 14) 0 (some 15) = some (MC_30 L xs) := pR_of (by unfold g_k; rw [KC_29]; rfl)
theorem KC_30 (L : Nat) (xs : Nat → Int32) : (MC_30 L xs).1 = (g_K0 L).take 16 := (mR_K (MC_29 L xs) _ _ _).trans (KC_29 L xs)
set_option maxRecDepth 20000 in
theorem LN_30 (L : Nat) (xs : Nat → Int32) : (MC_30 L xs).1.length = 16 := by rw [KC_30]; rfl
def RC_30 : Nat → Nat → Option Nat := g_up RC_29 14 0 (some 15)
theorem RR_30 (L : Nat) (xs : Nat → Int32) : (MC_30 L xs).2.2.2 = RC_30 := mR_Rr (RR_29 L xs)
theorem II_30 (L : Nat) (xs : Nat → Int32) : ∀ i, i ≠ 0 → (MC_30 L xs).2.1 i = IC_29 i := mR_In (II_29 L xs)
theorem LL_30 (L : Nat) (xs : Nat → Int32) : ∀ i k, (MC_30 L xs).2.2.1 i k = 0 := mR_Ln (LL_29 L xs)
def MC_31 (L : Nat) (xs : Nat → Int32) : gM := nw (20, 49) (MC_30 L xs)
theorem NW_31 (L : Nat) (xs : Nat → Int32) : nw (20, 49) (MC_30 L xs) = MC_31 L xs := rfl
set_option maxRecDepth 20000 in
theorem KC_31 (L : Nat) (xs : Nat → Int32) : (MC_31 L xs).1 = (g_K0 L).take 17 := (nw_K _ (MC_30 L xs)).trans (by rw [KC_30]; rfl)
set_option maxRecDepth 20000 in
theorem LN_31 (L : Nat) (xs : Nat → Int32) : (MC_31 L xs).1.length = 17 := by rw [KC_31]; rfl
def RC_31 : Nat → Nat → Option Nat := g_row RC_30 16 (fun _ => none)
theorem RR_31 (L : Nat) (xs : Nat → Int32) : (MC_31 L xs).2.2.2 = RC_31 := nw_R (LN_30 L xs) (RR_30 L xs)
def IC_31 : Nat → Nat → Int32 := g_row IC_29 16 (fun _ => 0)
theorem II_31 (L : Nat) (xs : Nat → Int32) : ∀ i, i ≠ 0 → (MC_31 L xs).2.1 i = IC_31 i := nw_I (LN_30 L xs) (II_30 L xs)
theorem LL_31 (L : Nat) (xs : Nat → Int32) : ∀ i k, (MC_31 L xs).2.2.1 i k = 0 := nw_L (LL_30 L xs)
def MC_32 (L : Nat) (xs : Nat → Int32) : gM := mR (MC_31 L xs) 14 1 (some 16)
set_option maxRecDepth 20000 in
theorem ST_32 (L : Nat) (xs : Nat → Int32) : pR 8 (MC_31 L xs) (some 14) 1 (some 16) = some (MC_32 L xs) := pR_of (by unfold g_k; rw [KC_31]; rfl)
theorem KC_32 (L : Nat) (xs : Nat → Int32) : (MC_32 L xs).1 = (g_K0 L).take 17 := (mR_K (MC_31 L xs) _ _ _).trans (KC_31 L xs)
set_option maxRecDepth 20000 in
theorem LN_32 (L : Nat) (xs : Nat → Int32) : (MC_32 L xs).1.length = 17 := by rw [KC_32]; rfl
def RC_32 : Nat → Nat → Option Nat := g_up RC_31 14 1 (some 16)
theorem RR_32 (L : Nat) (xs : Nat → Int32) : (MC_32 L xs).2.2.2 = RC_32 := mR_Rr (RR_31 L xs)
theorem II_32 (L : Nat) (xs : Nat → Int32) : ∀ i, i ≠ 0 → (MC_32 L xs).2.1 i = IC_31 i := mR_In (II_31 L xs)
theorem LL_32 (L : Nat) (xs : Nat → Int32) : ∀ i k, (MC_32 L xs).2.2.1 i k = 0 := mR_Ln (LL_31 L xs)
def MC_33 (L : Nat) (xs : Nat → Int32) : gM := nw (20, 7) (MC_32 L xs)
theorem NW_33 (L : Nat) (xs : Nat → Int32) : nw (20, 7) (MC_32 L xs) = MC_33 L xs := rfl
set_option maxRecDepth 20000 in
theorem KC_33 (L : Nat) (xs : Nat → Int32) : (MC_33 L xs).1 = (g_K0 L).take 18 := (nw_K _ (MC_32 L xs)).trans (by rw [KC_32]; rfl)
set_option maxRecDepth 20000 in
theorem LN_33 (L : Nat) (xs : Nat → Int32) : (MC_33 L xs).1.length = 18 := by rw [KC_33]; rfl
def RC_33 : Nat → Nat → Option Nat := g_row RC_32 17 (fun _ => none)
theorem RR_33 (L : Nat) (xs : Nat → Int32) : (MC_33 L xs).2.2.2 = RC_33 := nw_R (LN_32 L xs) (RR_32 L xs)
def IC_33 : Nat → Nat → Int32 := g_row IC_31 17 (fun _ => 0)
theorem II_33 (L : Nat) (xs : Nat → Int32) : ∀ i, i ≠ 0 → (MC_33 L xs).2.1 i = IC_33 i := nw_I (LN_32 L xs) (II_32 L xs)
theorem LL_33 (L : Nat) (xs : Nat → Int32) : ∀ i k, (MC_33 L xs).2.2.1 i k = 0 := nw_L (LL_32 L xs)
def MC_34 (L : Nat) (xs : Nat → Int32) : gM := mR (MC_33 L xs) 14 2 (some 17)
set_option maxRecDepth 20000 in
theorem ST_34 (L : Nat) (xs : Nat → Int32) : pR 8 (MC_33 L xs) (some 14) 2 (some 17) = some (MC_34 L xs) := pR_of (by unfold g_k; rw [KC_33]; rfl)
theorem KC_34 (L : Nat) (xs : Nat → Int32) : (MC_34 L xs).1 = (g_K0 L).take 18 := (mR_K (MC_33 L xs) _ _ _).trans (KC_33 L xs)
set_option maxRecDepth 20000 in
theorem LN_34 (L : Nat) (xs : Nat → Int32) : (MC_34 L xs).1.length = 18 := by rw [KC_34]; rfl
def RC_34 : Nat → Nat → Option Nat := g_up RC_33 14 2 (some 17)
theorem RR_34 (L : Nat) (xs : Nat → Int32) : (MC_34 L xs).2.2.2 = RC_34 := mR_Rr (RR_33 L xs)
theorem II_34 (L : Nat) (xs : Nat → Int32) : ∀ i, i ≠ 0 → (MC_34 L xs).2.1 i = IC_33 i := mR_In (II_33 L xs)
theorem LL_34 (L : Nat) (xs : Nat → Int32) : ∀ i k, (MC_34 L xs).2.2.1 i k = 0 := mR_Ln (LL_33 L xs)
def MC_35 (L : Nat) (xs : Nat → Int32) : gM := nw (20, 7) (MC_34 L xs)
theorem NW_35 (L : Nat) (xs : Nat → Int32) : nw (20, 7) (MC_34 L xs) = MC_35 L xs := rfl
set_option maxRecDepth 20000 in
theorem KC_35 (L : Nat) (xs : Nat → Int32) : (MC_35 L xs).1 = (g_K0 L).take 19 := (nw_K _ (MC_34 L xs)).trans (by rw [KC_34]; rfl)
set_option maxRecDepth 20000 in
theorem LN_35 (L : Nat) (xs : Nat → Int32) : (MC_35 L xs).1.length = 19 := by rw [KC_35]; rfl
def RC_35 : Nat → Nat → Option Nat := g_row RC_34 18 (fun _ => none)
theorem RR_35 (L : Nat) (xs : Nat → Int32) : (MC_35 L xs).2.2.2 = RC_35 := nw_R (LN_34 L xs) (RR_34 L xs)
def IC_35 : Nat → Nat → Int32 := g_row IC_33 18 (fun _ => 0)
theorem II_35 (L : Nat) (xs : Nat → Int32) : ∀ i, i ≠ 0 → (MC_35 L xs).2.1 i = IC_35 i := nw_I (LN_34 L xs) (II_34 L xs)
theorem LL_35 (L : Nat) (xs : Nat → Int32) : ∀ i k, (MC_35 L xs).2.2.1 i k = 0 := nw_L (LL_34 L xs)
def MC_36 (L : Nat) (xs : Nat → Int32) : gM := mR (MC_35 L xs) 14 3 (some 18)
set_option maxRecDepth 20000 in
theorem ST_36 (L : Nat) (xs : Nat → Int32) : pR 8 (MC_35 L xs) (some 14) 3 (some 18) = some (MC_36 L xs) := pR_of (by unfold g_k; rw [KC_35]; rfl)
theorem KC_36 (L : Nat) (xs : Nat → Int32) : (MC_36 L xs).1 = (g_K0 L).take 19 := (mR_K (MC_35 L xs) _ _ _).trans (KC_35 L xs)
set_option maxRecDepth 20000 in
theorem LN_36 (L : Nat) (xs : Nat → Int32) : (MC_36 L xs).1.length = 19 := by rw [KC_36]; rfl
def RC_36 : Nat → Nat → Option Nat := g_up RC_35 14 3 (some 18)
theorem RR_36 (L : Nat) (xs : Nat → Int32) : (MC_36 L xs).2.2.2 = RC_36 := mR_Rr (RR_35 L xs)
theorem II_36 (L : Nat) (xs : Nat → Int32) : ∀ i, i ≠ 0 → (MC_36 L xs).2.1 i = IC_35 i := mR_In (II_35 L xs)
theorem LL_36 (L : Nat) (xs : Nat → Int32) : ∀ i k, (MC_36 L xs).2.2.1 i k = 0 := mR_Ln (LL_35 L xs)
def MC_37 (L : Nat) (xs : Nat → Int32) : gM := mI (MC_36 L xs) 14 4 (0 : Int32)
set_option maxRecDepth 20000 in
theorem ST_37 (L : Nat) (xs : Nat → Int32) : pI 8 (MC_36 L xs) (some 14) 4 (0 : Int32) = some (MC_37 L xs) := pI_of (by unfold g_k; rw [KC_36]; rfl)
theorem KC_37 (L : Nat) (xs : Nat → Int32) : (MC_37 L xs).1 = (g_K0 L).take 19 := (mI_K (MC_36 L xs) _ _ _).trans (KC_36 L xs)
set_option maxRecDepth 20000 in
theorem LN_37 (L : Nat) (xs : Nat → Int32) : (MC_37 L xs).1.length = 19 := by rw [KC_37]; rfl
theorem RR_37 (L : Nat) (xs : Nat → Int32) : (MC_37 L xs).2.2.2 = RC_36 := (mI_Rn (MC_36 L xs) _ _ _).trans (RR_36 L xs)
def IC_37 : Nat → Nat → Int32 := g_up IC_35 14 4 (0)
theorem II_37 (L : Nat) (xs : Nat → Int32) : ∀ i, i ≠ 0 → (MC_37 L xs).2.1 i = IC_37 i := mI_I (II_36 L xs)
theorem LL_37 (L : Nat) (xs : Nat → Int32) : ∀ i k, (MC_37 L xs).2.2.1 i k = 0 := mI_Ln (LL_36 L xs)
def MC_38 (L : Nat) (xs : Nat → Int32) : gM := mI (MC_37 L xs) 14 5 (0 : Int32)
set_option maxRecDepth 20000 in
theorem ST_38 (L : Nat) (xs : Nat → Int32) : pI 8 (MC_37 L xs) (some 14) 5 (0 : Int32) = some (MC_38 L xs) := pI_of (by unfold g_k; rw [KC_37]; rfl)
theorem KC_38 (L : Nat) (xs : Nat → Int32) : (MC_38 L xs).1 = (g_K0 L).take 19 := (mI_K (MC_37 L xs) _ _ _).trans (KC_37 L xs)
set_option maxRecDepth 20000 in
theorem LN_38 (L : Nat) (xs : Nat → Int32) : (MC_38 L xs).1.length = 19 := by rw [KC_38]; rfl
theorem RR_38 (L : Nat) (xs : Nat → Int32) : (MC_38 L xs).2.2.2 = RC_36 := (mI_Rn (MC_37 L xs) _ _ _).trans (RR_37 L xs)
def IC_38 : Nat → Nat → Int32 := g_up IC_37 14 5 (0)
theorem II_38 (L : Nat) (xs : Nat → Int32) : ∀ i, i ≠ 0 → (MC_38 L xs).2.1 i = IC_38 i := mI_I (II_37 L xs)
theorem LL_38 (L : Nat) (xs : Nat → Int32) : ∀ i k, (MC_38 L xs).2.2.1 i k = 0 := mI_Ln (LL_37 L xs)
def MC_39 (L : Nat) (xs : Nat → Int32) : gM := mI (MC_38 L xs) 14 6 (0 : Int32)
set_option maxRecDepth 20000 in
theorem ST_39 (L : Nat) (xs : Nat → Int32) : pI 8 (MC_38 L xs) (some 14) 6 (0 : Int32) = some (MC_39 L xs) := pI_of (by unfold g_k; rw [KC_38]; rfl)
theorem KC_39 (L : Nat) (xs : Nat → Int32) : (MC_39 L xs).1 = (g_K0 L).take 19 := (mI_K (MC_38 L xs) _ _ _).trans (KC_38 L xs)
set_option maxRecDepth 20000 in
theorem LN_39 (L : Nat) (xs : Nat → Int32) : (MC_39 L xs).1.length = 19 := by rw [KC_39]; rfl
theorem RR_39 (L : Nat) (xs : Nat → Int32) : (MC_39 L xs).2.2.2 = RC_36 := (mI_Rn (MC_38 L xs) _ _ _).trans (RR_38 L xs)
def IC_39 : Nat → Nat → Int32 := g_up IC_38 14 6 (0)
theorem II_39 (L : Nat) (xs : Nat → Int32) : ∀ i, i ≠ 0 → (MC_39 L xs).2.1 i = IC_39 i := mI_I (II_38 L xs)
theorem LL_39 (L : Nat) (xs : Nat → Int32) : ∀ i k, (MC_39 L xs).2.2.1 i k = 0 := mI_Ln (LL_38 L xs)
def MC_40 (L : Nat) (xs : Nat → Int32) : gM := mR (MC_39 L xs) 2 6 (some 14)
set_option maxRecDepth 20000 in
theorem ST_40 (L : Nat) (xs : Nat → Int32) : pR 11 (MC_39 L xs) (some 2) 6 (some 14) = some (MC_40 L xs) := pR_of (by unfold g_k; rw [KC_39]; rfl)
theorem KC_40 (L : Nat) (xs : Nat → Int32) : (MC_40 L xs).1 = (g_K0 L).take 19 := (mR_K (MC_39 L xs) _ _ _).trans (KC_39 L xs)
set_option maxRecDepth 20000 in
theorem LN_40 (L : Nat) (xs : Nat → Int32) : (MC_40 L xs).1.length = 19 := by rw [KC_40]; rfl
def RC_40 : Nat → Nat → Option Nat := g_up RC_36 2 6 (some 14)
theorem RR_40 (L : Nat) (xs : Nat → Int32) : (MC_40 L xs).2.2.2 = RC_40 := mR_Rr (RR_39 L xs)
theorem II_40 (L : Nat) (xs : Nat → Int32) : ∀ i, i ≠ 0 → (MC_40 L xs).2.1 i = IC_39 i := mR_In (II_39 L xs)
theorem LL_40 (L : Nat) (xs : Nat → Int32) : ∀ i k, (MC_40 L xs).2.2.1 i k = 0 := mR_Ln (LL_39 L xs)
def MC_41 (L : Nat) (xs : Nat → Int32) : gM := nw (4, 0) (MC_40 L xs)
theorem NW_41 (L : Nat) (xs : Nat → Int32) : nw (4, 0) (MC_40 L xs) = MC_41 L xs := rfl
set_option maxRecDepth 20000 in
theorem KC_41 (L : Nat) (xs : Nat → Int32) : (MC_41 L xs).1 = (g_K0 L).take 20 := (nw_K _ (MC_40 L xs)).trans (by rw [KC_40]; rfl)
set_option maxRecDepth 20000 in
theorem LN_41 (L : Nat) (xs : Nat → Int32) : (MC_41 L xs).1.length = 20 := by rw [KC_41]; rfl
def RC_41 : Nat → Nat → Option Nat := g_row RC_40 19 (fun _ => none)
theorem RR_41 (L : Nat) (xs : Nat → Int32) : (MC_41 L xs).2.2.2 = RC_41 := nw_R (LN_40 L xs) (RR_40 L xs)
def IC_41 : Nat → Nat → Int32 := g_row IC_39 19 (fun _ => 0)
theorem II_41 (L : Nat) (xs : Nat → Int32) : ∀ i, i ≠ 0 → (MC_41 L xs).2.1 i = IC_41 i := nw_I (LN_40 L xs) (II_40 L xs)
theorem LL_41 (L : Nat) (xs : Nat → Int32) : ∀ i k, (MC_41 L xs).2.2.1 i k = 0 := nw_L (LL_40 L xs)
def MC_42 (L : Nat) (xs : Nat → Int32) : gM := nw (24, 20) (MC_41 L xs)
theorem NW_42 (L : Nat) (xs : Nat → Int32) : nw (24, 20) (MC_41 L xs) = MC_42 L xs := rfl
set_option maxRecDepth 20000 in
theorem KC_42 (L : Nat) (xs : Nat → Int32) : (MC_42 L xs).1 = (g_K0 L).take 21 := (nw_K _ (MC_41 L xs)).trans (by rw [KC_41]; rfl)
set_option maxRecDepth 20000 in
theorem LN_42 (L : Nat) (xs : Nat → Int32) : (MC_42 L xs).1.length = 21 := by rw [KC_42]; rfl
def RC_42 : Nat → Nat → Option Nat := g_row RC_41 20 (fun _ => none)
theorem RR_42 (L : Nat) (xs : Nat → Int32) : (MC_42 L xs).2.2.2 = RC_42 := nw_R (LN_41 L xs) (RR_41 L xs)
def IC_42 : Nat → Nat → Int32 := g_row IC_41 20 (fun _ => 0)
theorem II_42 (L : Nat) (xs : Nat → Int32) : ∀ i, i ≠ 0 → (MC_42 L xs).2.1 i = IC_42 i := nw_I (LN_41 L xs) (II_41 L xs)
theorem LL_42 (L : Nat) (xs : Nat → Int32) : ∀ i k, (MC_42 L xs).2.2.1 i k = 0 := nw_L (LL_41 L xs)
def MC_43 (L : Nat) (xs : Nat → Int32) : gM := mR (MC_42 L xs) 19 0 (some 20)
set_option maxRecDepth 20000 in
theorem ST_43 (L : Nat) (xs : Nat → Int32) : pR 4 (MC_42 L xs) (some 19) 0 (some 20) = some (MC_43 L xs) := pR_of (by unfold g_k; rw [KC_42]; rfl)
theorem KC_43 (L : Nat) (xs : Nat → Int32) : (MC_43 L xs).1 = (g_K0 L).take 21 := (mR_K (MC_42 L xs) _ _ _).trans (KC_42 L xs)
set_option maxRecDepth 20000 in
theorem LN_43 (L : Nat) (xs : Nat → Int32) : (MC_43 L xs).1.length = 21 := by rw [KC_43]; rfl
def RC_43 : Nat → Nat → Option Nat := g_up RC_42 19 0 (some 20)
theorem RR_43 (L : Nat) (xs : Nat → Int32) : (MC_43 L xs).2.2.2 = RC_43 := mR_Rr (RR_42 L xs)
theorem II_43 (L : Nat) (xs : Nat → Int32) : ∀ i, i ≠ 0 → (MC_43 L xs).2.1 i = IC_42 i := mR_In (II_42 L xs)
theorem LL_43 (L : Nat) (xs : Nat → Int32) : ∀ i k, (MC_43 L xs).2.2.1 i k = 0 := mR_Ln (LL_42 L xs)
def MC_44 (L : Nat) (xs : Nat → Int32) : gM := mI (MC_43 L xs) 19 1 (0 : Int32)
set_option maxRecDepth 20000 in
theorem ST_44 (L : Nat) (xs : Nat → Int32) : pI 4 (MC_43 L xs) (some 19) 1 (0 : Int32) = some (MC_44 L xs) := pI_of (by unfold g_k; rw [KC_43]; rfl)
theorem KC_44 (L : Nat) (xs : Nat → Int32) : (MC_44 L xs).1 = (g_K0 L).take 21 := (mI_K (MC_43 L xs) _ _ _).trans (KC_43 L xs)
set_option maxRecDepth 20000 in
theorem LN_44 (L : Nat) (xs : Nat → Int32) : (MC_44 L xs).1.length = 21 := by rw [KC_44]; rfl
theorem RR_44 (L : Nat) (xs : Nat → Int32) : (MC_44 L xs).2.2.2 = RC_43 := (mI_Rn (MC_43 L xs) _ _ _).trans (RR_43 L xs)
def IC_44 : Nat → Nat → Int32 := g_up IC_42 19 1 (0)
theorem II_44 (L : Nat) (xs : Nat → Int32) : ∀ i, i ≠ 0 → (MC_44 L xs).2.1 i = IC_44 i := mI_I (II_43 L xs)
theorem LL_44 (L : Nat) (xs : Nat → Int32) : ∀ i k, (MC_44 L xs).2.2.1 i k = 0 := mI_Ln (LL_43 L xs)
def MC_45 (L : Nat) (xs : Nat → Int32) : gM := mI (MC_44 L xs) 19 2 (0 : Int32)
set_option maxRecDepth 20000 in
theorem ST_45 (L : Nat) (xs : Nat → Int32) : pI 4 (MC_44 L xs) (some 19) 2 (0 : Int32) = some (MC_45 L xs) := pI_of (by unfold g_k; rw [KC_44]; rfl)
theorem KC_45 (L : Nat) (xs : Nat → Int32) : (MC_45 L xs).1 = (g_K0 L).take 21 := (mI_K (MC_44 L xs) _ _ _).trans (KC_44 L xs)
set_option maxRecDepth 20000 in
theorem LN_45 (L : Nat) (xs : Nat → Int32) : (MC_45 L xs).1.length = 21 := by rw [KC_45]; rfl
theorem RR_45 (L : Nat) (xs : Nat → Int32) : (MC_45 L xs).2.2.2 = RC_43 := (mI_Rn (MC_44 L xs) _ _ _).trans (RR_44 L xs)
def IC_45 : Nat → Nat → Int32 := g_up IC_44 19 2 (0)
theorem II_45 (L : Nat) (xs : Nat → Int32) : ∀ i, i ≠ 0 → (MC_45 L xs).2.1 i = IC_45 i := mI_I (II_44 L xs)
theorem LL_45 (L : Nat) (xs : Nat → Int32) : ∀ i k, (MC_45 L xs).2.2.1 i k = 0 := mI_Ln (LL_44 L xs)
set_option maxRecDepth 20000 in
theorem GR_1 (L : Nat) (xs : Nat → Int32) : gR 4 (MC_45 L xs) (some 19) 0 = some (some 20) := gR_of (by unfold g_k; rw [KC_45]; rfl) (by rw [RR_45]; decide +kernel)
def MC_46 (L : Nat) (xs : Nat → Int32) : gM := nw (8, 0) (MC_45 L xs)
theorem NW_46 (L : Nat) (xs : Nat → Int32) : nw (8, 0) (MC_45 L xs) = MC_46 L xs := rfl
set_option maxRecDepth 20000 in
theorem KC_46 (L : Nat) (xs : Nat → Int32) : (MC_46 L xs).1 = (g_K0 L).take 22 := (nw_K _ (MC_45 L xs)).trans (by rw [KC_45]; rfl)
set_option maxRecDepth 20000 in
theorem LN_46 (L : Nat) (xs : Nat → Int32) : (MC_46 L xs).1.length = 22 := by rw [KC_46]; rfl
def RC_46 : Nat → Nat → Option Nat := g_row RC_43 21 (fun _ => none)
theorem RR_46 (L : Nat) (xs : Nat → Int32) : (MC_46 L xs).2.2.2 = RC_46 := nw_R (LN_45 L xs) (RR_45 L xs)
def IC_46 : Nat → Nat → Int32 := g_row IC_45 21 (fun _ => 0)
theorem II_46 (L : Nat) (xs : Nat → Int32) : ∀ i, i ≠ 0 → (MC_46 L xs).2.1 i = IC_46 i := nw_I (LN_45 L xs) (II_45 L xs)
theorem LL_46 (L : Nat) (xs : Nat → Int32) : ∀ i k, (MC_46 L xs).2.2.1 i k = 0 := nw_L (LL_45 L xs)
def MC_47 (L : Nat) (xs : Nat → Int32) : gM := nw (20, 49) (MC_46 L xs)
theorem NW_47 (L : Nat) (xs : Nat → Int32) : nw (20, 49) (MC_46 L xs) = MC_47 L xs := rfl
set_option maxRecDepth 20000 in
theorem KC_47 (L : Nat) (xs : Nat → Int32) : (MC_47 L xs).1 = (g_K0 L).take 23 := (nw_K _ (MC_46 L xs)).trans (by rw [KC_46]; rfl)
set_option maxRecDepth 20000 in
theorem LN_47 (L : Nat) (xs : Nat → Int32) : (MC_47 L xs).1.length = 23 := by rw [KC_47]; rfl
def RC_47 : Nat → Nat → Option Nat := g_row RC_46 22 (fun _ => none)
theorem RR_47 (L : Nat) (xs : Nat → Int32) : (MC_47 L xs).2.2.2 = RC_47 := nw_R (LN_46 L xs) (RR_46 L xs)
def IC_47 : Nat → Nat → Int32 := g_row IC_46 22 (fun _ => 0)
theorem II_47 (L : Nat) (xs : Nat → Int32) : ∀ i, i ≠ 0 → (MC_47 L xs).2.1 i = IC_47 i := nw_I (LN_46 L xs) (II_46 L xs)
theorem LL_47 (L : Nat) (xs : Nat → Int32) : ∀ i k, (MC_47 L xs).2.2.1 i k = 0 := nw_L (LL_46 L xs)
def MC_48 (L : Nat) (xs : Nat → Int32) : gM := mR (MC_47 L xs) 21 0 (some 22)
set_option maxRecDepth 20000 in
theorem ST_48 (L : Nat) (xs : Nat → Int32) : pR 8 (MC_47 L xs) (some 21) 0 (some 22) = some (MC_48 L xs) := pR_of (by unfold g_k; rw [KC_47]; rfl)
theorem KC_48 (L : Nat) (xs : Nat → Int32) : (MC_48 L xs).1 = (g_K0 L).take 23 := (mR_K (MC_47 L xs) _ _ _).trans (KC_47 L xs)
set_option maxRecDepth 20000 in
theorem LN_48 (L : Nat) (xs : Nat → Int32) : (MC_48 L xs).1.length = 23 := by rw [KC_48]; rfl
def RC_48 : Nat → Nat → Option Nat := g_up RC_47 21 0 (some 22)
theorem RR_48 (L : Nat) (xs : Nat → Int32) : (MC_48 L xs).2.2.2 = RC_48 := mR_Rr (RR_47 L xs)
theorem II_48 (L : Nat) (xs : Nat → Int32) : ∀ i, i ≠ 0 → (MC_48 L xs).2.1 i = IC_47 i := mR_In (II_47 L xs)
theorem LL_48 (L : Nat) (xs : Nat → Int32) : ∀ i k, (MC_48 L xs).2.2.1 i k = 0 := mR_Ln (LL_47 L xs)
def MC_49 (L : Nat) (xs : Nat → Int32) : gM := nw (20, 49) (MC_48 L xs)
theorem NW_49 (L : Nat) (xs : Nat → Int32) : nw (20, 49) (MC_48 L xs) = MC_49 L xs := rfl
set_option maxRecDepth 20000 in
theorem KC_49 (L : Nat) (xs : Nat → Int32) : (MC_49 L xs).1 = (g_K0 L).take 24 := (nw_K _ (MC_48 L xs)).trans (by rw [KC_48]; rfl)
set_option maxRecDepth 20000 in
theorem LN_49 (L : Nat) (xs : Nat → Int32) : (MC_49 L xs).1.length = 24 := by rw [KC_49]; rfl
def RC_49 : Nat → Nat → Option Nat := g_row RC_48 23 (fun _ => none)
theorem RR_49 (L : Nat) (xs : Nat → Int32) : (MC_49 L xs).2.2.2 = RC_49 := nw_R (LN_48 L xs) (RR_48 L xs)
def IC_49 : Nat → Nat → Int32 := g_row IC_47 23 (fun _ => 0)
theorem II_49 (L : Nat) (xs : Nat → Int32) : ∀ i, i ≠ 0 → (MC_49 L xs).2.1 i = IC_49 i := nw_I (LN_48 L xs) (II_48 L xs)
theorem LL_49 (L : Nat) (xs : Nat → Int32) : ∀ i k, (MC_49 L xs).2.2.1 i k = 0 := nw_L (LL_48 L xs)
def MC_50 (L : Nat) (xs : Nat → Int32) : gM := mR (MC_49 L xs) 21 1 (some 23)
set_option maxRecDepth 20000 in
theorem ST_50 (L : Nat) (xs : Nat → Int32) : pR 8 (MC_49 L xs) (some 21) 1 (some 23) = some (MC_50 L xs) := pR_of (by unfold g_k; rw [KC_49]; rfl)
theorem KC_50 (L : Nat) (xs : Nat → Int32) : (MC_50 L xs).1 = (g_K0 L).take 24 := (mR_K (MC_49 L xs) _ _ _).trans (KC_49 L xs)
set_option maxRecDepth 20000 in
theorem LN_50 (L : Nat) (xs : Nat → Int32) : (MC_50 L xs).1.length = 24 := by rw [KC_50]; rfl
def RC_50 : Nat → Nat → Option Nat := g_up RC_49 21 1 (some 23)
theorem RR_50 (L : Nat) (xs : Nat → Int32) : (MC_50 L xs).2.2.2 = RC_50 := mR_Rr (RR_49 L xs)
theorem II_50 (L : Nat) (xs : Nat → Int32) : ∀ i, i ≠ 0 → (MC_50 L xs).2.1 i = IC_49 i := mR_In (II_49 L xs)
theorem LL_50 (L : Nat) (xs : Nat → Int32) : ∀ i k, (MC_50 L xs).2.2.1 i k = 0 := mR_Ln (LL_49 L xs)
def MC_51 (L : Nat) (xs : Nat → Int32) : gM := nw (20, 7) (MC_50 L xs)
theorem NW_51 (L : Nat) (xs : Nat → Int32) : nw (20, 7) (MC_50 L xs) = MC_51 L xs := rfl
set_option maxRecDepth 20000 in
theorem KC_51 (L : Nat) (xs : Nat → Int32) : (MC_51 L xs).1 = (g_K0 L).take 25 := (nw_K _ (MC_50 L xs)).trans (by rw [KC_50]; rfl)
set_option maxRecDepth 20000 in
theorem LN_51 (L : Nat) (xs : Nat → Int32) : (MC_51 L xs).1.length = 25 := by rw [KC_51]; rfl
def RC_51 : Nat → Nat → Option Nat := g_row RC_50 24 (fun _ => none)
theorem RR_51 (L : Nat) (xs : Nat → Int32) : (MC_51 L xs).2.2.2 = RC_51 := nw_R (LN_50 L xs) (RR_50 L xs)
def IC_51 : Nat → Nat → Int32 := g_row IC_49 24 (fun _ => 0)
theorem II_51 (L : Nat) (xs : Nat → Int32) : ∀ i, i ≠ 0 → (MC_51 L xs).2.1 i = IC_51 i := nw_I (LN_50 L xs) (II_50 L xs)
theorem LL_51 (L : Nat) (xs : Nat → Int32) : ∀ i k, (MC_51 L xs).2.2.1 i k = 0 := nw_L (LL_50 L xs)
def MC_52 (L : Nat) (xs : Nat → Int32) : gM := mR (MC_51 L xs) 21 2 (some 24)
set_option maxRecDepth 20000 in
theorem ST_52 (L : Nat) (xs : Nat → Int32) : pR 8 (MC_51 L xs) (some 21) 2 (some 24) = some (MC_52 L xs) := pR_of (by unfold g_k; rw [KC_51]; rfl)
theorem KC_52 (L : Nat) (xs : Nat → Int32) : (MC_52 L xs).1 = (g_K0 L).take 25 := (mR_K (MC_51 L xs) _ _ _).trans (KC_51 L xs)
set_option maxRecDepth 20000 in
theorem LN_52 (L : Nat) (xs : Nat → Int32) : (MC_52 L xs).1.length = 25 := by rw [KC_52]; rfl
def RC_52 : Nat → Nat → Option Nat := g_up RC_51 21 2 (some 24)
theorem RR_52 (L : Nat) (xs : Nat → Int32) : (MC_52 L xs).2.2.2 = RC_52 := mR_Rr (RR_51 L xs)
theorem II_52 (L : Nat) (xs : Nat → Int32) : ∀ i, i ≠ 0 → (MC_52 L xs).2.1 i = IC_51 i := mR_In (II_51 L xs)
theorem LL_52 (L : Nat) (xs : Nat → Int32) : ∀ i k, (MC_52 L xs).2.2.1 i k = 0 := mR_Ln (LL_51 L xs)
def MC_53 (L : Nat) (xs : Nat → Int32) : gM := nw (20, 7) (MC_52 L xs)
theorem NW_53 (L : Nat) (xs : Nat → Int32) : nw (20, 7) (MC_52 L xs) = MC_53 L xs := rfl
set_option maxRecDepth 20000 in
theorem KC_53 (L : Nat) (xs : Nat → Int32) : (MC_53 L xs).1 = (g_K0 L).take 26 := (nw_K _ (MC_52 L xs)).trans (by rw [KC_52]; rfl)
set_option maxRecDepth 20000 in
theorem LN_53 (L : Nat) (xs : Nat → Int32) : (MC_53 L xs).1.length = 26 := by rw [KC_53]; rfl
def RC_53 : Nat → Nat → Option Nat := g_row RC_52 25 (fun _ => none)
theorem RR_53 (L : Nat) (xs : Nat → Int32) : (MC_53 L xs).2.2.2 = RC_53 := nw_R (LN_52 L xs) (RR_52 L xs)
def IC_53 : Nat → Nat → Int32 := g_row IC_51 25 (fun _ => 0)
theorem II_53 (L : Nat) (xs : Nat → Int32) : ∀ i, i ≠ 0 → (MC_53 L xs).2.1 i = IC_53 i := nw_I (LN_52 L xs) (II_52 L xs)
theorem LL_53 (L : Nat) (xs : Nat → Int32) : ∀ i k, (MC_53 L xs).2.2.1 i k = 0 := nw_L (LL_52 L xs)
def MC_54 (L : Nat) (xs : Nat → Int32) : gM := mR (MC_53 L xs) 21 3 (some 25)
set_option maxRecDepth 20000 in
theorem ST_54 (L : Nat) (xs : Nat → Int32) : pR 8 (MC_53 L xs) (some 21) 3 (some 25) = some (MC_54 L xs) := pR_of (by unfold g_k; rw [KC_53]; rfl)
theorem KC_54 (L : Nat) (xs : Nat → Int32) : (MC_54 L xs).1 = (g_K0 L).take 26 := (mR_K (MC_53 L xs) _ _ _).trans (KC_53 L xs)
set_option maxRecDepth 20000 in
theorem LN_54 (L : Nat) (xs : Nat → Int32) : (MC_54 L xs).1.length = 26 := by rw [KC_54]; rfl
def RC_54 : Nat → Nat → Option Nat := g_up RC_53 21 3 (some 25)
theorem RR_54 (L : Nat) (xs : Nat → Int32) : (MC_54 L xs).2.2.2 = RC_54 := mR_Rr (RR_53 L xs)
theorem II_54 (L : Nat) (xs : Nat → Int32) : ∀ i, i ≠ 0 → (MC_54 L xs).2.1 i = IC_53 i := mR_In (II_53 L xs)
theorem LL_54 (L : Nat) (xs : Nat → Int32) : ∀ i k, (MC_54 L xs).2.2.1 i k = 0 := mR_Ln (LL_53 L xs)
def MC_55 (L : Nat) (xs : Nat → Int32) : gM := mI (MC_54 L xs) 21 4 (0 : Int32)
set_option maxRecDepth 20000 in
theorem ST_55 (L : Nat) (xs : Nat → Int32) : pI 8 (MC_54 L xs) (some 21) 4 (0 : Int32) = some (MC_55 L xs) := pI_of (by unfold g_k; rw [KC_54]; rfl)
theorem KC_55 (L : Nat) (xs : Nat → Int32) : (MC_55 L xs).1 = (g_K0 L).take 26 := (mI_K (MC_54 L xs) _ _ _).trans (KC_54 L xs)
set_option maxRecDepth 20000 in
theorem LN_55 (L : Nat) (xs : Nat → Int32) : (MC_55 L xs).1.length = 26 := by rw [KC_55]; rfl
theorem RR_55 (L : Nat) (xs : Nat → Int32) : (MC_55 L xs).2.2.2 = RC_54 := (mI_Rn (MC_54 L xs) _ _ _).trans (RR_54 L xs)
def IC_55 : Nat → Nat → Int32 := g_up IC_53 21 4 (0)
theorem II_55 (L : Nat) (xs : Nat → Int32) : ∀ i, i ≠ 0 → (MC_55 L xs).2.1 i = IC_55 i := mI_I (II_54 L xs)
theorem LL_55 (L : Nat) (xs : Nat → Int32) : ∀ i k, (MC_55 L xs).2.2.1 i k = 0 := mI_Ln (LL_54 L xs)
def MC_56 (L : Nat) (xs : Nat → Int32) : gM := mI (MC_55 L xs) 21 5 (0 : Int32)
set_option maxRecDepth 20000 in
theorem ST_56 (L : Nat) (xs : Nat → Int32) : pI 8 (MC_55 L xs) (some 21) 5 (0 : Int32) = some (MC_56 L xs) := pI_of (by unfold g_k; rw [KC_55]; rfl)
theorem KC_56 (L : Nat) (xs : Nat → Int32) : (MC_56 L xs).1 = (g_K0 L).take 26 := (mI_K (MC_55 L xs) _ _ _).trans (KC_55 L xs)
set_option maxRecDepth 20000 in
theorem LN_56 (L : Nat) (xs : Nat → Int32) : (MC_56 L xs).1.length = 26 := by rw [KC_56]; rfl
theorem RR_56 (L : Nat) (xs : Nat → Int32) : (MC_56 L xs).2.2.2 = RC_54 := (mI_Rn (MC_55 L xs) _ _ _).trans (RR_55 L xs)
def IC_56 : Nat → Nat → Int32 := g_up IC_55 21 5 (0)
theorem II_56 (L : Nat) (xs : Nat → Int32) : ∀ i, i ≠ 0 → (MC_56 L xs).2.1 i = IC_56 i := mI_I (II_55 L xs)
theorem LL_56 (L : Nat) (xs : Nat → Int32) : ∀ i k, (MC_56 L xs).2.2.1 i k = 0 := mI_Ln (LL_55 L xs)
def MC_57 (L : Nat) (xs : Nat → Int32) : gM := mI (MC_56 L xs) 21 6 (0 : Int32)
set_option maxRecDepth 20000 in
theorem ST_57 (L : Nat) (xs : Nat → Int32) : pI 8 (MC_56 L xs) (some 21) 6 (0 : Int32) = some (MC_57 L xs) := pI_of (by unfold g_k; rw [KC_56]; rfl)
theorem KC_57 (L : Nat) (xs : Nat → Int32) : (MC_57 L xs).1 = (g_K0 L).take 26 := (mI_K (MC_56 L xs) _ _ _).trans (KC_56 L xs)
set_option maxRecDepth 20000 in
theorem LN_57 (L : Nat) (xs : Nat → Int32) : (MC_57 L xs).1.length = 26 := by rw [KC_57]; rfl
theorem RR_57 (L : Nat) (xs : Nat → Int32) : (MC_57 L xs).2.2.2 = RC_54 := (mI_Rn (MC_56 L xs) _ _ _).trans (RR_56 L xs)
def IC_57 : Nat → Nat → Int32 := g_up IC_56 21 6 (0)
theorem II_57 (L : Nat) (xs : Nat → Int32) : ∀ i, i ≠ 0 → (MC_57 L xs).2.1 i = IC_57 i := mI_I (II_56 L xs)
theorem LL_57 (L : Nat) (xs : Nat → Int32) : ∀ i k, (MC_57 L xs).2.2.1 i k = 0 := mI_Ln (LL_56 L xs)
def MC_58 (L : Nat) (xs : Nat → Int32) : gM := mR (MC_57 L xs) 20 0 (some 21)
set_option maxRecDepth 20000 in
theorem ST_58 (L : Nat) (xs : Nat → Int32) : sR 24 (MC_57 L xs) (some 20) (0 : Int32) (some 21) = some (MC_58 L xs) := sR_of (n := 20) (by unfold g_k; rw [KC_57]; rfl) (by unfold g_k; rw [KC_57]; rfl) (by decide) (by decide)
theorem KC_58 (L : Nat) (xs : Nat → Int32) : (MC_58 L xs).1 = (g_K0 L).take 26 := (mR_K (MC_57 L xs) _ _ _).trans (KC_57 L xs)
set_option maxRecDepth 20000 in
theorem LN_58 (L : Nat) (xs : Nat → Int32) : (MC_58 L xs).1.length = 26 := by rw [KC_58]; rfl
def RC_58 : Nat → Nat → Option Nat := g_up RC_54 20 0 (some 21)
theorem RR_58 (L : Nat) (xs : Nat → Int32) : (MC_58 L xs).2.2.2 = RC_58 := mR_Rr (RR_57 L xs)
theorem II_58 (L : Nat) (xs : Nat → Int32) : ∀ i, i ≠ 0 → (MC_58 L xs).2.1 i = IC_57 i := mR_In (II_57 L xs)
theorem LL_58 (L : Nat) (xs : Nat → Int32) : ∀ i k, (MC_58 L xs).2.2.1 i k = 0 := mR_Ln (LL_57 L xs)
set_option maxRecDepth 20000 in
theorem GR_2 (L : Nat) (xs : Nat → Int32) : gR 4 (MC_58 L xs) (some 19) 0 = some (some 20) := gR_of (by unfold g_k; rw [KC_58]; rfl) (by rw [RR_58]; decide +kernel)
def MC_59 (L : Nat) (xs : Nat → Int32) : gM := nw (8, 0) (MC_58 L xs)
theorem NW_59 (L : Nat) (xs : Nat → Int32) : nw (8, 0) (MC_58 L xs) = MC_59 L xs := rfl
set_option maxRecDepth 20000 in
theorem KC_59 (L : Nat) (xs : Nat → Int32) : (MC_59 L xs).1 = (g_K0 L).take 27 := (nw_K _ (MC_58 L xs)).trans (by rw [KC_58]; rfl)
set_option maxRecDepth 20000 in
theorem LN_59 (L : Nat) (xs : Nat → Int32) : (MC_59 L xs).1.length = 27 := by rw [KC_59]; rfl
def RC_59 : Nat → Nat → Option Nat := g_row RC_58 26 (fun _ => none)
theorem RR_59 (L : Nat) (xs : Nat → Int32) : (MC_59 L xs).2.2.2 = RC_59 := nw_R (LN_58 L xs) (RR_58 L xs)
def IC_59 : Nat → Nat → Int32 := g_row IC_57 26 (fun _ => 0)
theorem II_59 (L : Nat) (xs : Nat → Int32) : ∀ i, i ≠ 0 → (MC_59 L xs).2.1 i = IC_59 i := nw_I (LN_58 L xs) (II_58 L xs)
theorem LL_59 (L : Nat) (xs : Nat → Int32) : ∀ i k, (MC_59 L xs).2.2.1 i k = 0 := nw_L (LL_58 L xs)
def MC_60 (L : Nat) (xs : Nat → Int32) : gM := nw (20, 49) (MC_59 L xs)
theorem NW_60 (L : Nat) (xs : Nat → Int32) : nw (20, 49) (MC_59 L xs) = MC_60 L xs := rfl
set_option maxRecDepth 20000 in
theorem KC_60 (L : Nat) (xs : Nat → Int32) : (MC_60 L xs).1 = (g_K0 L).take 28 := (nw_K _ (MC_59 L xs)).trans (by rw [KC_59]; rfl)
set_option maxRecDepth 20000 in
theorem LN_60 (L : Nat) (xs : Nat → Int32) : (MC_60 L xs).1.length = 28 := by rw [KC_60]; rfl
def RC_60 : Nat → Nat → Option Nat := g_row RC_59 27 (fun _ => none)
theorem RR_60 (L : Nat) (xs : Nat → Int32) : (MC_60 L xs).2.2.2 = RC_60 := nw_R (LN_59 L xs) (RR_59 L xs)
def IC_60 : Nat → Nat → Int32 := g_row IC_59 27 (fun _ => 0)
theorem II_60 (L : Nat) (xs : Nat → Int32) : ∀ i, i ≠ 0 → (MC_60 L xs).2.1 i = IC_60 i := nw_I (LN_59 L xs) (II_59 L xs)
theorem LL_60 (L : Nat) (xs : Nat → Int32) : ∀ i k, (MC_60 L xs).2.2.1 i k = 0 := nw_L (LL_59 L xs)
def MC_61 (L : Nat) (xs : Nat → Int32) : gM := mR (MC_60 L xs) 26 0 (some 27)
set_option maxRecDepth 20000 in
theorem ST_61 (L : Nat) (xs : Nat → Int32) : pR 8 (MC_60 L xs) (some 26) 0 (some 27) = some (MC_61 L xs) := pR_of (by unfold g_k; rw [KC_60]; rfl)
theorem KC_61 (L : Nat) (xs : Nat → Int32) : (MC_61 L xs).1 = (g_K0 L).take 28 := (mR_K (MC_60 L xs) _ _ _).trans (KC_60 L xs)
set_option maxRecDepth 20000 in
theorem LN_61 (L : Nat) (xs : Nat → Int32) : (MC_61 L xs).1.length = 28 := by rw [KC_61]; rfl
def RC_61 : Nat → Nat → Option Nat := g_up RC_60 26 0 (some 27)
theorem RR_61 (L : Nat) (xs : Nat → Int32) : (MC_61 L xs).2.2.2 = RC_61 := mR_Rr (RR_60 L xs)
theorem II_61 (L : Nat) (xs : Nat → Int32) : ∀ i, i ≠ 0 → (MC_61 L xs).2.1 i = IC_60 i := mR_In (II_60 L xs)
theorem LL_61 (L : Nat) (xs : Nat → Int32) : ∀ i k, (MC_61 L xs).2.2.1 i k = 0 := mR_Ln (LL_60 L xs)
def MC_62 (L : Nat) (xs : Nat → Int32) : gM := nw (20, 49) (MC_61 L xs)
theorem NW_62 (L : Nat) (xs : Nat → Int32) : nw (20, 49) (MC_61 L xs) = MC_62 L xs := rfl
set_option maxRecDepth 20000 in
theorem KC_62 (L : Nat) (xs : Nat → Int32) : (MC_62 L xs).1 = (g_K0 L).take 29 := (nw_K _ (MC_61 L xs)).trans (by rw [KC_61]; rfl)
set_option maxRecDepth 20000 in
theorem LN_62 (L : Nat) (xs : Nat → Int32) : (MC_62 L xs).1.length = 29 := by rw [KC_62]; rfl
def RC_62 : Nat → Nat → Option Nat := g_row RC_61 28 (fun _ => none)
theorem RR_62 (L : Nat) (xs : Nat → Int32) : (MC_62 L xs).2.2.2 = RC_62 := nw_R (LN_61 L xs) (RR_61 L xs)
def IC_62 : Nat → Nat → Int32 := g_row IC_60 28 (fun _ => 0)
theorem II_62 (L : Nat) (xs : Nat → Int32) : ∀ i, i ≠ 0 → (MC_62 L xs).2.1 i = IC_62 i := nw_I (LN_61 L xs) (II_61 L xs)
theorem LL_62 (L : Nat) (xs : Nat → Int32) : ∀ i k, (MC_62 L xs).2.2.1 i k = 0 := nw_L (LL_61 L xs)
def MC_63 (L : Nat) (xs : Nat → Int32) : gM := mR (MC_62 L xs) 26 1 (some 28)
set_option maxRecDepth 20000 in
theorem ST_63 (L : Nat) (xs : Nat → Int32) : pR 8 (MC_62 L xs) (some 26) 1 (some 28) = some (MC_63 L xs) := pR_of (by unfold g_k; rw [KC_62]; rfl)
theorem KC_63 (L : Nat) (xs : Nat → Int32) : (MC_63 L xs).1 = (g_K0 L).take 29 := (mR_K (MC_62 L xs) _ _ _).trans (KC_62 L xs)
set_option maxRecDepth 20000 in
theorem LN_63 (L : Nat) (xs : Nat → Int32) : (MC_63 L xs).1.length = 29 := by rw [KC_63]; rfl
def RC_63 : Nat → Nat → Option Nat := g_up RC_62 26 1 (some 28)
theorem RR_63 (L : Nat) (xs : Nat → Int32) : (MC_63 L xs).2.2.2 = RC_63 := mR_Rr (RR_62 L xs)
theorem II_63 (L : Nat) (xs : Nat → Int32) : ∀ i, i ≠ 0 → (MC_63 L xs).2.1 i = IC_62 i := mR_In (II_62 L xs)
theorem LL_63 (L : Nat) (xs : Nat → Int32) : ∀ i k, (MC_63 L xs).2.2.1 i k = 0 := mR_Ln (LL_62 L xs)
def MC_64 (L : Nat) (xs : Nat → Int32) : gM := nw (20, 7) (MC_63 L xs)
theorem NW_64 (L : Nat) (xs : Nat → Int32) : nw (20, 7) (MC_63 L xs) = MC_64 L xs := rfl
set_option maxRecDepth 20000 in
theorem KC_64 (L : Nat) (xs : Nat → Int32) : (MC_64 L xs).1 = (g_K0 L).take 30 := (nw_K _ (MC_63 L xs)).trans (by rw [KC_63]; rfl)
set_option maxRecDepth 20000 in
theorem LN_64 (L : Nat) (xs : Nat → Int32) : (MC_64 L xs).1.length = 30 := by rw [KC_64]; rfl
def RC_64 : Nat → Nat → Option Nat := g_row RC_63 29 (fun _ => none)
theorem RR_64 (L : Nat) (xs : Nat → Int32) : (MC_64 L xs).2.2.2 = RC_64 := nw_R (LN_63 L xs) (RR_63 L xs)
def IC_64 : Nat → Nat → Int32 := g_row IC_62 29 (fun _ => 0)
theorem II_64 (L : Nat) (xs : Nat → Int32) : ∀ i, i ≠ 0 → (MC_64 L xs).2.1 i = IC_64 i := nw_I (LN_63 L xs) (II_63 L xs)
theorem LL_64 (L : Nat) (xs : Nat → Int32) : ∀ i k, (MC_64 L xs).2.2.1 i k = 0 := nw_L (LL_63 L xs)
def MC_65 (L : Nat) (xs : Nat → Int32) : gM := mR (MC_64 L xs) 26 2 (some 29)
set_option maxRecDepth 20000 in
theorem ST_65 (L : Nat) (xs : Nat → Int32) : pR 8 (MC_64 L xs) (some 26) 2 (some 29) = some (MC_65 L xs) := pR_of (by unfold g_k; rw [KC_64]; rfl)
theorem KC_65 (L : Nat) (xs : Nat → Int32) : (MC_65 L xs).1 = (g_K0 L).take 30 := (mR_K (MC_64 L xs) _ _ _).trans (KC_64 L xs)
set_option maxRecDepth 20000 in
theorem LN_65 (L : Nat) (xs : Nat → Int32) : (MC_65 L xs).1.length = 30 := by rw [KC_65]; rfl
def RC_65 : Nat → Nat → Option Nat := g_up RC_64 26 2 (some 29)
theorem RR_65 (L : Nat) (xs : Nat → Int32) : (MC_65 L xs).2.2.2 = RC_65 := mR_Rr (RR_64 L xs)
theorem II_65 (L : Nat) (xs : Nat → Int32) : ∀ i, i ≠ 0 → (MC_65 L xs).2.1 i = IC_64 i := mR_In (II_64 L xs)
theorem LL_65 (L : Nat) (xs : Nat → Int32) : ∀ i k, (MC_65 L xs).2.2.1 i k = 0 := mR_Ln (LL_64 L xs)
def MC_66 (L : Nat) (xs : Nat → Int32) : gM := nw (20, 7) (MC_65 L xs)
theorem NW_66 (L : Nat) (xs : Nat → Int32) : nw (20, 7) (MC_65 L xs) = MC_66 L xs := rfl
set_option maxRecDepth 20000 in
theorem KC_66 (L : Nat) (xs : Nat → Int32) : (MC_66 L xs).1 = (g_K0 L).take 31 := (nw_K _ (MC_65 L xs)).trans (by rw [KC_65]; rfl)
set_option maxRecDepth 20000 in
theorem LN_66 (L : Nat) (xs : Nat → Int32) : (MC_66 L xs).1.length = 31 := by rw [KC_66]; rfl
def RC_66 : Nat → Nat → Option Nat := g_row RC_65 30 (fun _ => none)
theorem RR_66 (L : Nat) (xs : Nat → Int32) : (MC_66 L xs).2.2.2 = RC_66 := nw_R (LN_65 L xs) (RR_65 L xs)
def IC_66 : Nat → Nat → Int32 := g_row IC_64 30 (fun _ => 0)
theorem II_66 (L : Nat) (xs : Nat → Int32) : ∀ i, i ≠ 0 → (MC_66 L xs).2.1 i = IC_66 i := nw_I (LN_65 L xs) (II_65 L xs)
theorem LL_66 (L : Nat) (xs : Nat → Int32) : ∀ i k, (MC_66 L xs).2.2.1 i k = 0 := nw_L (LL_65 L xs)
def MC_67 (L : Nat) (xs : Nat → Int32) : gM := mR (MC_66 L xs) 26 3 (some 30)
set_option maxRecDepth 20000 in
theorem ST_67 (L : Nat) (xs : Nat → Int32) : pR 8 (MC_66 L xs) (some 26) 3 (some 30) = some (MC_67 L xs) := pR_of (by unfold g_k; rw [KC_66]; rfl)
theorem KC_67 (L : Nat) (xs : Nat → Int32) : (MC_67 L xs).1 = (g_K0 L).take 31 := (mR_K (MC_66 L xs) _ _ _).trans (KC_66 L xs)
set_option maxRecDepth 20000 in
theorem LN_67 (L : Nat) (xs : Nat → Int32) : (MC_67 L xs).1.length = 31 := by rw [KC_67]; rfl
def RC_67 : Nat → Nat → Option Nat := g_up RC_66 26 3 (some 30)
theorem RR_67 (L : Nat) (xs : Nat → Int32) : (MC_67 L xs).2.2.2 = RC_67 := mR_Rr (RR_66 L xs)
theorem II_67 (L : Nat) (xs : Nat → Int32) : ∀ i, i ≠ 0 → (MC_67 L xs).2.1 i = IC_66 i := mR_In (II_66 L xs)
theorem LL_67 (L : Nat) (xs : Nat → Int32) : ∀ i k, (MC_67 L xs).2.2.1 i k = 0 := mR_Ln (LL_66 L xs)
def MC_68 (L : Nat) (xs : Nat → Int32) : gM := mI (MC_67 L xs) 26 4 (0 : Int32)
set_option maxRecDepth 20000 in
theorem ST_68 (L : Nat) (xs : Nat → Int32) : pI 8 (MC_67 L xs) (some 26) 4 (0 : Int32) = some (MC_68 L xs) := pI_of (by unfold g_k; rw [KC_67]; rfl)
theorem KC_68 (L : Nat) (xs : Nat → Int32) : (MC_68 L xs).1 = (g_K0 L).take 31 := (mI_K (MC_67 L xs) _ _ _).trans (KC_67 L xs)
set_option maxRecDepth 20000 in
theorem LN_68 (L : Nat) (xs : Nat → Int32) : (MC_68 L xs).1.length = 31 := by rw [KC_68]; rfl
theorem RR_68 (L : Nat) (xs : Nat → Int32) : (MC_68 L xs).2.2.2 = RC_67 := (mI_Rn (MC_67 L xs) _ _ _).trans (RR_67 L xs)
def IC_68 : Nat → Nat → Int32 := g_up IC_66 26 4 (0)
theorem II_68 (L : Nat) (xs : Nat → Int32) : ∀ i, i ≠ 0 → (MC_68 L xs).2.1 i = IC_68 i := mI_I (II_67 L xs)
theorem LL_68 (L : Nat) (xs : Nat → Int32) : ∀ i k, (MC_68 L xs).2.2.1 i k = 0 := mI_Ln (LL_67 L xs)
def MC_69 (L : Nat) (xs : Nat → Int32) : gM := mI (MC_68 L xs) 26 5 (0 : Int32)
set_option maxRecDepth 20000 in
theorem ST_69 (L : Nat) (xs : Nat → Int32) : pI 8 (MC_68 L xs) (some 26) 5 (0 : Int32) = some (MC_69 L xs) := pI_of (by unfold g_k; rw [KC_68]; rfl)
theorem KC_69 (L : Nat) (xs : Nat → Int32) : (MC_69 L xs).1 = (g_K0 L).take 31 := (mI_K (MC_68 L xs) _ _ _).trans (KC_68 L xs)
set_option maxRecDepth 20000 in
theorem LN_69 (L : Nat) (xs : Nat → Int32) : (MC_69 L xs).1.length = 31 := by rw [KC_69]; rfl
theorem RR_69 (L : Nat) (xs : Nat → Int32) : (MC_69 L xs).2.2.2 = RC_67 := (mI_Rn (MC_68 L xs) _ _ _).trans (RR_68 L xs)
def IC_69 : Nat → Nat → Int32 := g_up IC_68 26 5 (0)
theorem II_69 (L : Nat) (xs : Nat → Int32) : ∀ i, i ≠ 0 → (MC_69 L xs).2.1 i = IC_69 i := mI_I (II_68 L xs)
theorem LL_69 (L : Nat) (xs : Nat → Int32) : ∀ i k, (MC_69 L xs).2.2.1 i k = 0 := mI_Ln (LL_68 L xs)
def MC_70 (L : Nat) (xs : Nat → Int32) : gM := mI (MC_69 L xs) 26 6 (0 : Int32)
set_option maxRecDepth 20000 in
theorem ST_70 (L : Nat) (xs : Nat → Int32) : pI 8 (MC_69 L xs) (some 26) 6 (0 : Int32) = some (MC_70 L xs) := pI_of (by unfold g_k; rw [KC_69]; rfl)
theorem KC_70 (L : Nat) (xs : Nat → Int32) : (MC_70 L xs).1 = (g_K0 L).take 31 := (mI_K (MC_69 L xs) _ _ _).trans (KC_69 L xs)
set_option maxRecDepth 20000 in
theorem LN_70 (L : Nat) (xs : Nat → Int32) : (MC_70 L xs).1.length = 31 := by rw [KC_70]; rfl
theorem RR_70 (L : Nat) (xs : Nat → Int32) : (MC_70 L xs).2.2.2 = RC_67 := (mI_Rn (MC_69 L xs) _ _ _).trans (RR_69 L xs)
def IC_70 : Nat → Nat → Int32 := g_up IC_69 26 6 (0)
theorem II_70 (L : Nat) (xs : Nat → Int32) : ∀ i, i ≠ 0 → (MC_70 L xs).2.1 i = IC_70 i := mI_I (II_69 L xs)
theorem LL_70 (L : Nat) (xs : Nat → Int32) : ∀ i k, (MC_70 L xs).2.2.1 i k = 0 := mI_Ln (LL_69 L xs)
def MC_71 (L : Nat) (xs : Nat → Int32) : gM := mR (MC_70 L xs) 20 1 (some 26)
set_option maxRecDepth 20000 in
theorem ST_71 (L : Nat) (xs : Nat → Int32) : sR 24 (MC_70 L xs) (some 20) (1 : Int32) (some 26) = some (MC_71 L xs) := sR_of (n := 20) (by unfold g_k; rw [KC_70]; rfl) (by unfold g_k; rw [KC_70]; rfl) (by decide) (by decide)
theorem KC_71 (L : Nat) (xs : Nat → Int32) : (MC_71 L xs).1 = (g_K0 L).take 31 := (mR_K (MC_70 L xs) _ _ _).trans (KC_70 L xs)
set_option maxRecDepth 20000 in
theorem LN_71 (L : Nat) (xs : Nat → Int32) : (MC_71 L xs).1.length = 31 := by rw [KC_71]; rfl
def RC_71 : Nat → Nat → Option Nat := g_up RC_67 20 1 (some 26)
theorem RR_71 (L : Nat) (xs : Nat → Int32) : (MC_71 L xs).2.2.2 = RC_71 := mR_Rr (RR_70 L xs)
theorem II_71 (L : Nat) (xs : Nat → Int32) : ∀ i, i ≠ 0 → (MC_71 L xs).2.1 i = IC_70 i := mR_In (II_70 L xs)
theorem LL_71 (L : Nat) (xs : Nat → Int32) : ∀ i k, (MC_71 L xs).2.2.1 i k = 0 := mR_Ln (LL_70 L xs)
set_option maxRecDepth 20000 in
theorem GR_3 (L : Nat) (xs : Nat → Int32) : gR 4 (MC_71 L xs) (some 19) 0 = some (some 20) := gR_of (by unfold g_k; rw [KC_71]; rfl) (by rw [RR_71]; decide +kernel)
def MC_72 (L : Nat) (xs : Nat → Int32) : gM := nw (8, 0) (MC_71 L xs)
theorem NW_72 (L : Nat) (xs : Nat → Int32) : nw (8, 0) (MC_71 L xs) = MC_72 L xs := rfl
set_option maxRecDepth 20000 in
theorem KC_72 (L : Nat) (xs : Nat → Int32) : (MC_72 L xs).1 = (g_K0 L).take 32 := (nw_K _ (MC_71 L xs)).trans (by rw [KC_71]; rfl)
set_option maxRecDepth 20000 in
theorem LN_72 (L : Nat) (xs : Nat → Int32) : (MC_72 L xs).1.length = 32 := by rw [KC_72]; rfl
def RC_72 : Nat → Nat → Option Nat := g_row RC_71 31 (fun _ => none)
theorem RR_72 (L : Nat) (xs : Nat → Int32) : (MC_72 L xs).2.2.2 = RC_72 := nw_R (LN_71 L xs) (RR_71 L xs)
def IC_72 : Nat → Nat → Int32 := g_row IC_70 31 (fun _ => 0)
theorem II_72 (L : Nat) (xs : Nat → Int32) : ∀ i, i ≠ 0 → (MC_72 L xs).2.1 i = IC_72 i := nw_I (LN_71 L xs) (II_71 L xs)
theorem LL_72 (L : Nat) (xs : Nat → Int32) : ∀ i k, (MC_72 L xs).2.2.1 i k = 0 := nw_L (LL_71 L xs)
def MC_73 (L : Nat) (xs : Nat → Int32) : gM := nw (20, 49) (MC_72 L xs)
theorem NW_73 (L : Nat) (xs : Nat → Int32) : nw (20, 49) (MC_72 L xs) = MC_73 L xs := rfl
set_option maxRecDepth 20000 in
theorem KC_73 (L : Nat) (xs : Nat → Int32) : (MC_73 L xs).1 = (g_K0 L).take 33 := (nw_K _ (MC_72 L xs)).trans (by rw [KC_72]; rfl)
set_option maxRecDepth 20000 in
theorem LN_73 (L : Nat) (xs : Nat → Int32) : (MC_73 L xs).1.length = 33 := by rw [KC_73]; rfl
def RC_73 : Nat → Nat → Option Nat := g_row RC_72 32 (fun _ => none)
theorem RR_73 (L : Nat) (xs : Nat → Int32) : (MC_73 L xs).2.2.2 = RC_73 := nw_R (LN_72 L xs) (RR_72 L xs)
def IC_73 : Nat → Nat → Int32 := g_row IC_72 32 (fun _ => 0)
theorem II_73 (L : Nat) (xs : Nat → Int32) : ∀ i, i ≠ 0 → (MC_73 L xs).2.1 i = IC_73 i := nw_I (LN_72 L xs) (II_72 L xs)
theorem LL_73 (L : Nat) (xs : Nat → Int32) : ∀ i k, (MC_73 L xs).2.2.1 i k = 0 := nw_L (LL_72 L xs)
def MC_74 (L : Nat) (xs : Nat → Int32) : gM := mR (MC_73 L xs) 31 0 (some 32)
set_option maxRecDepth 20000 in
theorem ST_74 (L : Nat) (xs : Nat → Int32) : pR 8 (MC_73 L xs) (some 31) 0 (some 32) = some (MC_74 L xs) := pR_of (by unfold g_k; rw [KC_73]; rfl)
theorem KC_74 (L : Nat) (xs : Nat → Int32) : (MC_74 L xs).1 = (g_K0 L).take 33 := (mR_K (MC_73 L xs) _ _ _).trans (KC_73 L xs)
set_option maxRecDepth 20000 in
theorem LN_74 (L : Nat) (xs : Nat → Int32) : (MC_74 L xs).1.length = 33 := by rw [KC_74]; rfl
def RC_74 : Nat → Nat → Option Nat := g_up RC_73 31 0 (some 32)
theorem RR_74 (L : Nat) (xs : Nat → Int32) : (MC_74 L xs).2.2.2 = RC_74 := mR_Rr (RR_73 L xs)
theorem II_74 (L : Nat) (xs : Nat → Int32) : ∀ i, i ≠ 0 → (MC_74 L xs).2.1 i = IC_73 i := mR_In (II_73 L xs)
theorem LL_74 (L : Nat) (xs : Nat → Int32) : ∀ i k, (MC_74 L xs).2.2.1 i k = 0 := mR_Ln (LL_73 L xs)
def MC_75 (L : Nat) (xs : Nat → Int32) : gM := nw (20, 49) (MC_74 L xs)
theorem NW_75 (L : Nat) (xs : Nat → Int32) : nw (20, 49) (MC_74 L xs) = MC_75 L xs := rfl
set_option maxRecDepth 20000 in
theorem KC_75 (L : Nat) (xs : Nat → Int32) : (MC_75 L xs).1 = (g_K0 L).take 34 := (nw_K _ (MC_74 L xs)).trans (by rw [KC_74]; rfl)
set_option maxRecDepth 20000 in
theorem LN_75 (L : Nat) (xs : Nat → Int32) : (MC_75 L xs).1.length = 34 := by rw [KC_75]; rfl
def RC_75 : Nat → Nat → Option Nat := g_row RC_74 33 (fun _ => none)
theorem RR_75 (L : Nat) (xs : Nat → Int32) : (MC_75 L xs).2.2.2 = RC_75 := nw_R (LN_74 L xs) (RR_74 L xs)
def IC_75 : Nat → Nat → Int32 := g_row IC_73 33 (fun _ => 0)
theorem II_75 (L : Nat) (xs : Nat → Int32) : ∀ i, i ≠ 0 → (MC_75 L xs).2.1 i = IC_75 i := nw_I (LN_74 L xs) (II_74 L xs)
theorem LL_75 (L : Nat) (xs : Nat → Int32) : ∀ i k, (MC_75 L xs).2.2.1 i k = 0 := nw_L (LL_74 L xs)
def MC_76 (L : Nat) (xs : Nat → Int32) : gM := mR (MC_75 L xs) 31 1 (some 33)
set_option maxRecDepth 20000 in
theorem ST_76 (L : Nat) (xs : Nat → Int32) : pR 8 (MC_75 L xs) (some 31) 1 (some 33) = some (MC_76 L xs) := pR_of (by unfold g_k; rw [KC_75]; rfl)
theorem KC_76 (L : Nat) (xs : Nat → Int32) : (MC_76 L xs).1 = (g_K0 L).take 34 := (mR_K (MC_75 L xs) _ _ _).trans (KC_75 L xs)
set_option maxRecDepth 20000 in
theorem LN_76 (L : Nat) (xs : Nat → Int32) : (MC_76 L xs).1.length = 34 := by rw [KC_76]; rfl
def RC_76 : Nat → Nat → Option Nat := g_up RC_75 31 1 (some 33)
theorem RR_76 (L : Nat) (xs : Nat → Int32) : (MC_76 L xs).2.2.2 = RC_76 := mR_Rr (RR_75 L xs)
theorem II_76 (L : Nat) (xs : Nat → Int32) : ∀ i, i ≠ 0 → (MC_76 L xs).2.1 i = IC_75 i := mR_In (II_75 L xs)
theorem LL_76 (L : Nat) (xs : Nat → Int32) : ∀ i k, (MC_76 L xs).2.2.1 i k = 0 := mR_Ln (LL_75 L xs)
def MC_77 (L : Nat) (xs : Nat → Int32) : gM := nw (20, 7) (MC_76 L xs)
theorem NW_77 (L : Nat) (xs : Nat → Int32) : nw (20, 7) (MC_76 L xs) = MC_77 L xs := rfl
set_option maxRecDepth 20000 in
theorem KC_77 (L : Nat) (xs : Nat → Int32) : (MC_77 L xs).1 = (g_K0 L).take 35 := (nw_K _ (MC_76 L xs)).trans (by rw [KC_76]; rfl)
set_option maxRecDepth 20000 in
theorem LN_77 (L : Nat) (xs : Nat → Int32) : (MC_77 L xs).1.length = 35 := by rw [KC_77]; rfl
def RC_77 : Nat → Nat → Option Nat := g_row RC_76 34 (fun _ => none)
theorem RR_77 (L : Nat) (xs : Nat → Int32) : (MC_77 L xs).2.2.2 = RC_77 := nw_R (LN_76 L xs) (RR_76 L xs)
def IC_77 : Nat → Nat → Int32 := g_row IC_75 34 (fun _ => 0)
theorem II_77 (L : Nat) (xs : Nat → Int32) : ∀ i, i ≠ 0 → (MC_77 L xs).2.1 i = IC_77 i := nw_I (LN_76 L xs) (II_76 L xs)
theorem LL_77 (L : Nat) (xs : Nat → Int32) : ∀ i k, (MC_77 L xs).2.2.1 i k = 0 := nw_L (LL_76 L xs)
def MC_78 (L : Nat) (xs : Nat → Int32) : gM := mR (MC_77 L xs) 31 2 (some 34)
set_option maxRecDepth 20000 in
theorem ST_78 (L : Nat) (xs : Nat → Int32) : pR 8 (MC_77 L xs) (some 31) 2 (some 34) = some (MC_78 L xs) := pR_of (by unfold g_k; rw [KC_77]; rfl)
theorem KC_78 (L : Nat) (xs : Nat → Int32) : (MC_78 L xs).1 = (g_K0 L).take 35 := (mR_K (MC_77 L xs) _ _ _).trans (KC_77 L xs)
set_option maxRecDepth 20000 in
theorem LN_78 (L : Nat) (xs : Nat → Int32) : (MC_78 L xs).1.length = 35 := by rw [KC_78]; rfl
def RC_78 : Nat → Nat → Option Nat := g_up RC_77 31 2 (some 34)
theorem RR_78 (L : Nat) (xs : Nat → Int32) : (MC_78 L xs).2.2.2 = RC_78 := mR_Rr (RR_77 L xs)
theorem II_78 (L : Nat) (xs : Nat → Int32) : ∀ i, i ≠ 0 → (MC_78 L xs).2.1 i = IC_77 i := mR_In (II_77 L xs)
theorem LL_78 (L : Nat) (xs : Nat → Int32) : ∀ i k, (MC_78 L xs).2.2.1 i k = 0 := mR_Ln (LL_77 L xs)
def MC_79 (L : Nat) (xs : Nat → Int32) : gM := nw (20, 7) (MC_78 L xs)
theorem NW_79 (L : Nat) (xs : Nat → Int32) : nw (20, 7) (MC_78 L xs) = MC_79 L xs := rfl
set_option maxRecDepth 20000 in
theorem KC_79 (L : Nat) (xs : Nat → Int32) : (MC_79 L xs).1 = (g_K0 L).take 36 := (nw_K _ (MC_78 L xs)).trans (by rw [KC_78]; rfl)
set_option maxRecDepth 20000 in
theorem LN_79 (L : Nat) (xs : Nat → Int32) : (MC_79 L xs).1.length = 36 := by rw [KC_79]; rfl
def RC_79 : Nat → Nat → Option Nat := g_row RC_78 35 (fun _ => none)
theorem RR_79 (L : Nat) (xs : Nat → Int32) : (MC_79 L xs).2.2.2 = RC_79 := nw_R (LN_78 L xs) (RR_78 L xs)
def IC_79 : Nat → Nat → Int32 := g_row IC_77 35 (fun _ => 0)
theorem II_79 (L : Nat) (xs : Nat → Int32) : ∀ i, i ≠ 0 → (MC_79 L xs).2.1 i = IC_79 i := nw_I (LN_78 L xs) (II_78 L xs)
theorem LL_79 (L : Nat) (xs : Nat → Int32) : ∀ i k, (MC_79 L xs).2.2.1 i k = 0 := nw_L (LL_78 L xs)
def MC_80 (L : Nat) (xs : Nat → Int32) : gM := mR (MC_79 L xs) 31 3 (some 35)
set_option maxRecDepth 20000 in
theorem ST_80 (L : Nat) (xs : Nat → Int32) : pR 8 (MC_79 L xs) (some 31) 3 (some 35) = some (MC_80 L xs) := pR_of (by unfold g_k; rw [KC_79]; rfl)
theorem KC_80 (L : Nat) (xs : Nat → Int32) : (MC_80 L xs).1 = (g_K0 L).take 36 := (mR_K (MC_79 L xs) _ _ _).trans (KC_79 L xs)
set_option maxRecDepth 20000 in
theorem LN_80 (L : Nat) (xs : Nat → Int32) : (MC_80 L xs).1.length = 36 := by rw [KC_80]; rfl
def RC_80 : Nat → Nat → Option Nat := g_up RC_79 31 3 (some 35)
theorem RR_80 (L : Nat) (xs : Nat → Int32) : (MC_80 L xs).2.2.2 = RC_80 := mR_Rr (RR_79 L xs)
theorem II_80 (L : Nat) (xs : Nat → Int32) : ∀ i, i ≠ 0 → (MC_80 L xs).2.1 i = IC_79 i := mR_In (II_79 L xs)
theorem LL_80 (L : Nat) (xs : Nat → Int32) : ∀ i k, (MC_80 L xs).2.2.1 i k = 0 := mR_Ln (LL_79 L xs)
def MC_81 (L : Nat) (xs : Nat → Int32) : gM := mI (MC_80 L xs) 31 4 (0 : Int32)
set_option maxRecDepth 20000 in
theorem ST_81 (L : Nat) (xs : Nat → Int32) : pI 8 (MC_80 L xs) (some 31) 4 (0 : Int32) = some (MC_81 L xs) := pI_of (by unfold g_k; rw [KC_80]; rfl)
theorem KC_81 (L : Nat) (xs : Nat → Int32) : (MC_81 L xs).1 = (g_K0 L).take 36 := (mI_K (MC_80 L xs) _ _ _).trans (KC_80 L xs)
set_option maxRecDepth 20000 in
theorem LN_81 (L : Nat) (xs : Nat → Int32) : (MC_81 L xs).1.length = 36 := by rw [KC_81]; rfl
theorem RR_81 (L : Nat) (xs : Nat → Int32) : (MC_81 L xs).2.2.2 = RC_80 := (mI_Rn (MC_80 L xs) _ _ _).trans (RR_80 L xs)
def IC_81 : Nat → Nat → Int32 := g_up IC_79 31 4 (0)
theorem II_81 (L : Nat) (xs : Nat → Int32) : ∀ i, i ≠ 0 → (MC_81 L xs).2.1 i = IC_81 i := mI_I (II_80 L xs)
theorem LL_81 (L : Nat) (xs : Nat → Int32) : ∀ i k, (MC_81 L xs).2.2.1 i k = 0 := mI_Ln (LL_80 L xs)
def MC_82 (L : Nat) (xs : Nat → Int32) : gM := mI (MC_81 L xs) 31 5 (0 : Int32)
set_option maxRecDepth 20000 in
theorem ST_82 (L : Nat) (xs : Nat → Int32) : pI 8 (MC_81 L xs) (some 31) 5 (0 : Int32) = some (MC_82 L xs) := pI_of (by unfold g_k; rw [KC_81]; rfl)
theorem KC_82 (L : Nat) (xs : Nat → Int32) : (MC_82 L xs).1 = (g_K0 L).take 36 := (mI_K (MC_81 L xs) _ _ _).trans (KC_81 L xs)
set_option maxRecDepth 20000 in
theorem LN_82 (L : Nat) (xs : Nat → Int32) : (MC_82 L xs).1.length = 36 := by rw [KC_82]; rfl
theorem RR_82 (L : Nat) (xs : Nat → Int32) : (MC_82 L xs).2.2.2 = RC_80 := (mI_Rn (MC_81 L xs) _ _ _).trans (RR_81 L xs)
def IC_82 : Nat → Nat → Int32 := g_up IC_81 31 5 (0)
theorem II_82 (L : Nat) (xs : Nat → Int32) : ∀ i, i ≠ 0 → (MC_82 L xs).2.1 i = IC_82 i := mI_I (II_81 L xs)
theorem LL_82 (L : Nat) (xs : Nat → Int32) : ∀ i k, (MC_82 L xs).2.2.1 i k = 0 := mI_Ln (LL_81 L xs)
def MC_83 (L : Nat) (xs : Nat → Int32) : gM := mI (MC_82 L xs) 31 6 (0 : Int32)
set_option maxRecDepth 20000 in
theorem ST_83 (L : Nat) (xs : Nat → Int32) : pI 8 (MC_82 L xs) (some 31) 6 (0 : Int32) = some (MC_83 L xs) := pI_of (by unfold g_k; rw [KC_82]; rfl)
theorem KC_83 (L : Nat) (xs : Nat → Int32) : (MC_83 L xs).1 = (g_K0 L).take 36 := (mI_K (MC_82 L xs) _ _ _).trans (KC_82 L xs)
set_option maxRecDepth 20000 in
theorem LN_83 (L : Nat) (xs : Nat → Int32) : (MC_83 L xs).1.length = 36 := by rw [KC_83]; rfl
theorem RR_83 (L : Nat) (xs : Nat → Int32) : (MC_83 L xs).2.2.2 = RC_80 := (mI_Rn (MC_82 L xs) _ _ _).trans (RR_82 L xs)
def IC_83 : Nat → Nat → Int32 := g_up IC_82 31 6 (0)
theorem II_83 (L : Nat) (xs : Nat → Int32) : ∀ i, i ≠ 0 → (MC_83 L xs).2.1 i = IC_83 i := mI_I (II_82 L xs)
theorem LL_83 (L : Nat) (xs : Nat → Int32) : ∀ i k, (MC_83 L xs).2.2.1 i k = 0 := mI_Ln (LL_82 L xs)
def MC_84 (L : Nat) (xs : Nat → Int32) : gM := mR (MC_83 L xs) 20 2 (some 31)
set_option maxRecDepth 20000 in
theorem ST_84 (L : Nat) (xs : Nat → Int32) : sR 24 (MC_83 L xs) (some 20) (2 : Int32) (some 31) = some (MC_84 L xs) := sR_of (n := 20) (by unfold g_k; rw [KC_83]; rfl) (by unfold g_k; rw [KC_83]; rfl) (by decide) (by decide)
theorem KC_84 (L : Nat) (xs : Nat → Int32) : (MC_84 L xs).1 = (g_K0 L).take 36 := (mR_K (MC_83 L xs) _ _ _).trans (KC_83 L xs)
set_option maxRecDepth 20000 in
theorem LN_84 (L : Nat) (xs : Nat → Int32) : (MC_84 L xs).1.length = 36 := by rw [KC_84]; rfl
def RC_84 : Nat → Nat → Option Nat := g_up RC_80 20 2 (some 31)
theorem RR_84 (L : Nat) (xs : Nat → Int32) : (MC_84 L xs).2.2.2 = RC_84 := mR_Rr (RR_83 L xs)
theorem II_84 (L : Nat) (xs : Nat → Int32) : ∀ i, i ≠ 0 → (MC_84 L xs).2.1 i = IC_83 i := mR_In (II_83 L xs)
theorem LL_84 (L : Nat) (xs : Nat → Int32) : ∀ i k, (MC_84 L xs).2.2.1 i k = 0 := mR_Ln (LL_83 L xs)
set_option maxRecDepth 20000 in
theorem GR_4 (L : Nat) (xs : Nat → Int32) : gR 4 (MC_84 L xs) (some 19) 0 = some (some 20) := gR_of (by unfold g_k; rw [KC_84]; rfl) (by rw [RR_84]; decide +kernel)
def MC_85 (L : Nat) (xs : Nat → Int32) : gM := nw (8, 0) (MC_84 L xs)
theorem NW_85 (L : Nat) (xs : Nat → Int32) : nw (8, 0) (MC_84 L xs) = MC_85 L xs := rfl
set_option maxRecDepth 20000 in
theorem KC_85 (L : Nat) (xs : Nat → Int32) : (MC_85 L xs).1 = (g_K0 L).take 37 := (nw_K _ (MC_84 L xs)).trans (by rw [KC_84]; rfl)
set_option maxRecDepth 20000 in
theorem LN_85 (L : Nat) (xs : Nat → Int32) : (MC_85 L xs).1.length = 37 := by rw [KC_85]; rfl
def RC_85 : Nat → Nat → Option Nat := g_row RC_84 36 (fun _ => none)
theorem RR_85 (L : Nat) (xs : Nat → Int32) : (MC_85 L xs).2.2.2 = RC_85 := nw_R (LN_84 L xs) (RR_84 L xs)
def IC_85 : Nat → Nat → Int32 := g_row IC_83 36 (fun _ => 0)
theorem II_85 (L : Nat) (xs : Nat → Int32) : ∀ i, i ≠ 0 → (MC_85 L xs).2.1 i = IC_85 i := nw_I (LN_84 L xs) (II_84 L xs)
theorem LL_85 (L : Nat) (xs : Nat → Int32) : ∀ i k, (MC_85 L xs).2.2.1 i k = 0 := nw_L (LL_84 L xs)
def MC_86 (L : Nat) (xs : Nat → Int32) : gM := nw (20, 49) (MC_85 L xs)
theorem NW_86 (L : Nat) (xs : Nat → Int32) : nw (20, 49) (MC_85 L xs) = MC_86 L xs := rfl
set_option maxRecDepth 20000 in
theorem KC_86 (L : Nat) (xs : Nat → Int32) : (MC_86 L xs).1 = (g_K0 L).take 38 := (nw_K _ (MC_85 L xs)).trans (by rw [KC_85]; rfl)
set_option maxRecDepth 20000 in
theorem LN_86 (L : Nat) (xs : Nat → Int32) : (MC_86 L xs).1.length = 38 := by rw [KC_86]; rfl
def RC_86 : Nat → Nat → Option Nat := g_row RC_85 37 (fun _ => none)
theorem RR_86 (L : Nat) (xs : Nat → Int32) : (MC_86 L xs).2.2.2 = RC_86 := nw_R (LN_85 L xs) (RR_85 L xs)
def IC_86 : Nat → Nat → Int32 := g_row IC_85 37 (fun _ => 0)
theorem II_86 (L : Nat) (xs : Nat → Int32) : ∀ i, i ≠ 0 → (MC_86 L xs).2.1 i = IC_86 i := nw_I (LN_85 L xs) (II_85 L xs)
theorem LL_86 (L : Nat) (xs : Nat → Int32) : ∀ i k, (MC_86 L xs).2.2.1 i k = 0 := nw_L (LL_85 L xs)
def MC_87 (L : Nat) (xs : Nat → Int32) : gM := mR (MC_86 L xs) 36 0 (some 37)
set_option maxRecDepth 20000 in
theorem ST_87 (L : Nat) (xs : Nat → Int32) : pR 8 (MC_86 L xs) (some 36) 0 (some 37) = some (MC_87 L xs) := pR_of (by unfold g_k; rw [KC_86]; rfl)
theorem KC_87 (L : Nat) (xs : Nat → Int32) : (MC_87 L xs).1 = (g_K0 L).take 38 := (mR_K (MC_86 L xs) _ _ _).trans (KC_86 L xs)
set_option maxRecDepth 20000 in
theorem LN_87 (L : Nat) (xs : Nat → Int32) : (MC_87 L xs).1.length = 38 := by rw [KC_87]; rfl
def RC_87 : Nat → Nat → Option Nat := g_up RC_86 36 0 (some 37)
theorem RR_87 (L : Nat) (xs : Nat → Int32) : (MC_87 L xs).2.2.2 = RC_87 := mR_Rr (RR_86 L xs)
theorem II_87 (L : Nat) (xs : Nat → Int32) : ∀ i, i ≠ 0 → (MC_87 L xs).2.1 i = IC_86 i := mR_In (II_86 L xs)
theorem LL_87 (L : Nat) (xs : Nat → Int32) : ∀ i k, (MC_87 L xs).2.2.1 i k = 0 := mR_Ln (LL_86 L xs)
def MC_88 (L : Nat) (xs : Nat → Int32) : gM := nw (20, 49) (MC_87 L xs)
theorem NW_88 (L : Nat) (xs : Nat → Int32) : nw (20, 49) (MC_87 L xs) = MC_88 L xs := rfl
set_option maxRecDepth 20000 in
theorem KC_88 (L : Nat) (xs : Nat → Int32) : (MC_88 L xs).1 = (g_K0 L).take 39 := (nw_K _ (MC_87 L xs)).trans (by rw [KC_87]; rfl)
set_option maxRecDepth 20000 in
theorem LN_88 (L : Nat) (xs : Nat → Int32) : (MC_88 L xs).1.length = 39 := by rw [KC_88]; rfl
def RC_88 : Nat → Nat → Option Nat := g_row RC_87 38 (fun _ => none)
theorem RR_88 (L : Nat) (xs : Nat → Int32) : (MC_88 L xs).2.2.2 = RC_88 := nw_R (LN_87 L xs) (RR_87 L xs)
def IC_88 : Nat → Nat → Int32 := g_row IC_86 38 (fun _ => 0)
theorem II_88 (L : Nat) (xs : Nat → Int32) : ∀ i, i ≠ 0 → (MC_88 L xs).2.1 i = IC_88 i := nw_I (LN_87 L xs) (II_87 L xs)
theorem LL_88 (L : Nat) (xs : Nat → Int32) : ∀ i k, (MC_88 L xs).2.2.1 i k = 0 := nw_L (LL_87 L xs)
def MC_89 (L : Nat) (xs : Nat → Int32) : gM := mR (MC_88 L xs) 36 1 (some 38)
set_option maxRecDepth 20000 in
theorem ST_89 (L : Nat) (xs : Nat → Int32) : pR 8 (MC_88 L xs) (some 36) 1 (some 38) = some (MC_89 L xs) := pR_of (by unfold g_k; rw [KC_88]; rfl)
theorem KC_89 (L : Nat) (xs : Nat → Int32) : (MC_89 L xs).1 = (g_K0 L).take 39 := (mR_K (MC_88 L xs) _ _ _).trans (KC_88 L xs)
set_option maxRecDepth 20000 in
theorem LN_89 (L : Nat) (xs : Nat → Int32) : (MC_89 L xs).1.length = 39 := by rw [KC_89]; rfl
def RC_89 : Nat → Nat → Option Nat := g_up RC_88 36 1 (some 38)
theorem RR_89 (L : Nat) (xs : Nat → Int32) : (MC_89 L xs).2.2.2 = RC_89 := mR_Rr (RR_88 L xs)
theorem II_89 (L : Nat) (xs : Nat → Int32) : ∀ i, i ≠ 0 → (MC_89 L xs).2.1 i = IC_88 i := mR_In (II_88 L xs)
theorem LL_89 (L : Nat) (xs : Nat → Int32) : ∀ i k, (MC_89 L xs).2.2.1 i k = 0 := mR_Ln (LL_88 L xs)
def MC_90 (L : Nat) (xs : Nat → Int32) : gM := nw (20, 7) (MC_89 L xs)
theorem NW_90 (L : Nat) (xs : Nat → Int32) : nw (20, 7) (MC_89 L xs) = MC_90 L xs := rfl
set_option maxRecDepth 20000 in
theorem KC_90 (L : Nat) (xs : Nat → Int32) : (MC_90 L xs).1 = (g_K0 L).take 40 := (nw_K _ (MC_89 L xs)).trans (by rw [KC_89]; rfl)
set_option maxRecDepth 20000 in
theorem LN_90 (L : Nat) (xs : Nat → Int32) : (MC_90 L xs).1.length = 40 := by rw [KC_90]; rfl
def RC_90 : Nat → Nat → Option Nat := g_row RC_89 39 (fun _ => none)
theorem RR_90 (L : Nat) (xs : Nat → Int32) : (MC_90 L xs).2.2.2 = RC_90 := nw_R (LN_89 L xs) (RR_89 L xs)
def IC_90 : Nat → Nat → Int32 := g_row IC_88 39 (fun _ => 0)
theorem II_90 (L : Nat) (xs : Nat → Int32) : ∀ i, i ≠ 0 → (MC_90 L xs).2.1 i = IC_90 i := nw_I (LN_89 L xs) (II_89 L xs)
theorem LL_90 (L : Nat) (xs : Nat → Int32) : ∀ i k, (MC_90 L xs).2.2.1 i k = 0 := nw_L (LL_89 L xs)
def MC_91 (L : Nat) (xs : Nat → Int32) : gM := mR (MC_90 L xs) 36 2 (some 39)
set_option maxRecDepth 20000 in
theorem ST_91 (L : Nat) (xs : Nat → Int32) : pR 8 (MC_90 L xs) (some 36) 2 (some 39) = some (MC_91 L xs) := pR_of (by unfold g_k; rw [KC_90]; rfl)
theorem KC_91 (L : Nat) (xs : Nat → Int32) : (MC_91 L xs).1 = (g_K0 L).take 40 := (mR_K (MC_90 L xs) _ _ _).trans (KC_90 L xs)
set_option maxRecDepth 20000 in
theorem LN_91 (L : Nat) (xs : Nat → Int32) : (MC_91 L xs).1.length = 40 := by rw [KC_91]; rfl
def RC_91 : Nat → Nat → Option Nat := g_up RC_90 36 2 (some 39)
theorem RR_91 (L : Nat) (xs : Nat → Int32) : (MC_91 L xs).2.2.2 = RC_91 := mR_Rr (RR_90 L xs)
theorem II_91 (L : Nat) (xs : Nat → Int32) : ∀ i, i ≠ 0 → (MC_91 L xs).2.1 i = IC_90 i := mR_In (II_90 L xs)
theorem LL_91 (L : Nat) (xs : Nat → Int32) : ∀ i k, (MC_91 L xs).2.2.1 i k = 0 := mR_Ln (LL_90 L xs)
def MC_92 (L : Nat) (xs : Nat → Int32) : gM := nw (20, 7) (MC_91 L xs)
theorem NW_92 (L : Nat) (xs : Nat → Int32) : nw (20, 7) (MC_91 L xs) = MC_92 L xs := rfl
set_option maxRecDepth 20000 in
theorem KC_92 (L : Nat) (xs : Nat → Int32) : (MC_92 L xs).1 = (g_K0 L).take 41 := (nw_K _ (MC_91 L xs)).trans (by rw [KC_91]; rfl)
set_option maxRecDepth 20000 in
theorem LN_92 (L : Nat) (xs : Nat → Int32) : (MC_92 L xs).1.length = 41 := by rw [KC_92]; rfl
def RC_92 : Nat → Nat → Option Nat := g_row RC_91 40 (fun _ => none)
theorem RR_92 (L : Nat) (xs : Nat → Int32) : (MC_92 L xs).2.2.2 = RC_92 := nw_R (LN_91 L xs) (RR_91 L xs)
def IC_92 : Nat → Nat → Int32 := g_row IC_90 40 (fun _ => 0)
theorem II_92 (L : Nat) (xs : Nat → Int32) : ∀ i, i ≠ 0 → (MC_92 L xs).2.1 i = IC_92 i := nw_I (LN_91 L xs) (II_91 L xs)
theorem LL_92 (L : Nat) (xs : Nat → Int32) : ∀ i k, (MC_92 L xs).2.2.1 i k = 0 := nw_L (LL_91 L xs)
def MC_93 (L : Nat) (xs : Nat → Int32) : gM := mR (MC_92 L xs) 36 3 (some 40)
set_option maxRecDepth 20000 in
theorem ST_93 (L : Nat) (xs : Nat → Int32) : pR 8 (MC_92 L xs) (some 36) 3 (some 40) = some (MC_93 L xs) := pR_of (by unfold g_k; rw [KC_92]; rfl)
theorem KC_93 (L : Nat) (xs : Nat → Int32) : (MC_93 L xs).1 = (g_K0 L).take 41 := (mR_K (MC_92 L xs) _ _ _).trans (KC_92 L xs)
set_option maxRecDepth 20000 in
theorem LN_93 (L : Nat) (xs : Nat → Int32) : (MC_93 L xs).1.length = 41 := by rw [KC_93]; rfl
def RC_93 : Nat → Nat → Option Nat := g_up RC_92 36 3 (some 40)
theorem RR_93 (L : Nat) (xs : Nat → Int32) : (MC_93 L xs).2.2.2 = RC_93 := mR_Rr (RR_92 L xs)
theorem II_93 (L : Nat) (xs : Nat → Int32) : ∀ i, i ≠ 0 → (MC_93 L xs).2.1 i = IC_92 i := mR_In (II_92 L xs)
theorem LL_93 (L : Nat) (xs : Nat → Int32) : ∀ i k, (MC_93 L xs).2.2.1 i k = 0 := mR_Ln (LL_92 L xs)
def MC_94 (L : Nat) (xs : Nat → Int32) : gM := mI (MC_93 L xs) 36 4 (0 : Int32)
set_option maxRecDepth 20000 in
theorem ST_94 (L : Nat) (xs : Nat → Int32) : pI 8 (MC_93 L xs) (some 36) 4 (0 : Int32) = some (MC_94 L xs) := pI_of (by unfold g_k; rw [KC_93]; rfl)
theorem KC_94 (L : Nat) (xs : Nat → Int32) : (MC_94 L xs).1 = (g_K0 L).take 41 := (mI_K (MC_93 L xs) _ _ _).trans (KC_93 L xs)
set_option maxRecDepth 20000 in
theorem LN_94 (L : Nat) (xs : Nat → Int32) : (MC_94 L xs).1.length = 41 := by rw [KC_94]; rfl
theorem RR_94 (L : Nat) (xs : Nat → Int32) : (MC_94 L xs).2.2.2 = RC_93 := (mI_Rn (MC_93 L xs) _ _ _).trans (RR_93 L xs)
def IC_94 : Nat → Nat → Int32 := g_up IC_92 36 4 (0)
theorem II_94 (L : Nat) (xs : Nat → Int32) : ∀ i, i ≠ 0 → (MC_94 L xs).2.1 i = IC_94 i := mI_I (II_93 L xs)
theorem LL_94 (L : Nat) (xs : Nat → Int32) : ∀ i k, (MC_94 L xs).2.2.1 i k = 0 := mI_Ln (LL_93 L xs)
def MC_95 (L : Nat) (xs : Nat → Int32) : gM := mI (MC_94 L xs) 36 5 (0 : Int32)
set_option maxRecDepth 20000 in
theorem ST_95 (L : Nat) (xs : Nat → Int32) : pI 8 (MC_94 L xs) (some 36) 5 (0 : Int32) = some (MC_95 L xs) := pI_of (by unfold g_k; rw [KC_94]; rfl)
theorem KC_95 (L : Nat) (xs : Nat → Int32) : (MC_95 L xs).1 = (g_K0 L).take 41 := (mI_K (MC_94 L xs) _ _ _).trans (KC_94 L xs)
set_option maxRecDepth 20000 in
theorem LN_95 (L : Nat) (xs : Nat → Int32) : (MC_95 L xs).1.length = 41 := by rw [KC_95]; rfl
theorem RR_95 (L : Nat) (xs : Nat → Int32) : (MC_95 L xs).2.2.2 = RC_93 := (mI_Rn (MC_94 L xs) _ _ _).trans (RR_94 L xs)
def IC_95 : Nat → Nat → Int32 := g_up IC_94 36 5 (0)
theorem II_95 (L : Nat) (xs : Nat → Int32) : ∀ i, i ≠ 0 → (MC_95 L xs).2.1 i = IC_95 i := mI_I (II_94 L xs)
theorem LL_95 (L : Nat) (xs : Nat → Int32) : ∀ i k, (MC_95 L xs).2.2.1 i k = 0 := mI_Ln (LL_94 L xs)
def MC_96 (L : Nat) (xs : Nat → Int32) : gM := mI (MC_95 L xs) 36 6 (0 : Int32)
set_option maxRecDepth 20000 in
theorem ST_96 (L : Nat) (xs : Nat → Int32) : pI 8 (MC_95 L xs) (some 36) 6 (0 : Int32) = some (MC_96 L xs) := pI_of (by unfold g_k; rw [KC_95]; rfl)
theorem KC_96 (L : Nat) (xs : Nat → Int32) : (MC_96 L xs).1 = (g_K0 L).take 41 := (mI_K (MC_95 L xs) _ _ _).trans (KC_95 L xs)
set_option maxRecDepth 20000 in
theorem LN_96 (L : Nat) (xs : Nat → Int32) : (MC_96 L xs).1.length = 41 := by rw [KC_96]; rfl
theorem RR_96 (L : Nat) (xs : Nat → Int32) : (MC_96 L xs).2.2.2 = RC_93 := (mI_Rn (MC_95 L xs) _ _ _).trans (RR_95 L xs)
def IC_96 : Nat → Nat → Int32 := g_up IC_95 36 6 (0)
theorem II_96 (L : Nat) (xs : Nat → Int32) : ∀ i, i ≠ 0 → (MC_96 L xs).2.1 i = IC_96 i := mI_I (II_95 L xs)
theorem LL_96 (L : Nat) (xs : Nat → Int32) : ∀ i k, (MC_96 L xs).2.2.1 i k = 0 := mI_Ln (LL_95 L xs)
def MC_97 (L : Nat) (xs : Nat → Int32) : gM := mR (MC_96 L xs) 20 3 (some 36)
set_option maxRecDepth 20000 in
theorem ST_97 (L : Nat) (xs : Nat → Int32) : sR 24 (MC_96 L xs) (some 20) (3 : Int32) (some 36) = some (MC_97 L xs) := sR_of (n := 20) (by unfold g_k; rw [KC_96]; rfl) (by unfold g_k; rw [KC_96]; rfl) (by decide) (by decide)
theorem KC_97 (L : Nat) (xs : Nat → Int32) : (MC_97 L xs).1 = (g_K0 L).take 41 := (mR_K (MC_96 L xs) _ _ _).trans (KC_96 L xs)
set_option maxRecDepth 20000 in
theorem LN_97 (L : Nat) (xs : Nat → Int32) : (MC_97 L xs).1.length = 41 := by rw [KC_97]; rfl
def RC_97 : Nat → Nat → Option Nat := g_up RC_93 20 3 (some 36)
theorem RR_97 (L : Nat) (xs : Nat → Int32) : (MC_97 L xs).2.2.2 = RC_97 := mR_Rr (RR_96 L xs)
theorem II_97 (L : Nat) (xs : Nat → Int32) : ∀ i, i ≠ 0 → (MC_97 L xs).2.1 i = IC_96 i := mR_In (II_96 L xs)
theorem LL_97 (L : Nat) (xs : Nat → Int32) : ∀ i k, (MC_97 L xs).2.2.1 i k = 0 := mR_Ln (LL_96 L xs)
set_option maxRecDepth 20000 in
theorem GR_5 (L : Nat) (xs : Nat → Int32) : gR 4 (MC_97 L xs) (some 19) 0 = some (some 20) := gR_of (by unfold g_k; rw [KC_97]; rfl) (by rw [RR_97]; decide +kernel)
def MC_98 (L : Nat) (xs : Nat → Int32) : gM := nw (8, 0) (MC_97 L xs)
theorem NW_98 (L : Nat) (xs : Nat → Int32) : nw (8, 0) (MC_97 L xs) = MC_98 L xs := rfl
set_option maxRecDepth 20000 in
theorem KC_98 (L : Nat) (xs : Nat → Int32) : (MC_98 L xs).1 = (g_K0 L).take 42 := (nw_K _ (MC_97 L xs)).trans (by rw [KC_97]; rfl)
set_option maxRecDepth 20000 in
theorem LN_98 (L : Nat) (xs : Nat → Int32) : (MC_98 L xs).1.length = 42 := by rw [KC_98]; rfl
def RC_98 : Nat → Nat → Option Nat := g_row RC_97 41 (fun _ => none)
theorem RR_98 (L : Nat) (xs : Nat → Int32) : (MC_98 L xs).2.2.2 = RC_98 := nw_R (LN_97 L xs) (RR_97 L xs)
def IC_98 : Nat → Nat → Int32 := g_row IC_96 41 (fun _ => 0)
theorem II_98 (L : Nat) (xs : Nat → Int32) : ∀ i, i ≠ 0 → (MC_98 L xs).2.1 i = IC_98 i := nw_I (LN_97 L xs) (II_97 L xs)
theorem LL_98 (L : Nat) (xs : Nat → Int32) : ∀ i k, (MC_98 L xs).2.2.1 i k = 0 := nw_L (LL_97 L xs)
def MC_99 (L : Nat) (xs : Nat → Int32) : gM := nw (20, 49) (MC_98 L xs)
theorem NW_99 (L : Nat) (xs : Nat → Int32) : nw (20, 49) (MC_98 L xs) = MC_99 L xs := rfl
set_option maxRecDepth 20000 in
theorem KC_99 (L : Nat) (xs : Nat → Int32) : (MC_99 L xs).1 = (g_K0 L).take 43 := (nw_K _ (MC_98 L xs)).trans (by rw [KC_98]; rfl)
set_option maxRecDepth 20000 in
theorem LN_99 (L : Nat) (xs : Nat → Int32) : (MC_99 L xs).1.length = 43 := by rw [KC_99]; rfl
def RC_99 : Nat → Nat → Option Nat := g_row RC_98 42 (fun _ => none)
theorem RR_99 (L : Nat) (xs : Nat → Int32) : (MC_99 L xs).2.2.2 = RC_99 := nw_R (LN_98 L xs) (RR_98 L xs)
def IC_99 : Nat → Nat → Int32 := g_row IC_98 42 (fun _ => 0)
theorem II_99 (L : Nat) (xs : Nat → Int32) : ∀ i, i ≠ 0 → (MC_99 L xs).2.1 i = IC_99 i := nw_I (LN_98 L xs) (II_98 L xs)
theorem LL_99 (L : Nat) (xs : Nat → Int32) : ∀ i k, (MC_99 L xs).2.2.1 i k = 0 := nw_L (LL_98 L xs)
def MC_100 (L : Nat) (xs : Nat → Int32) : gM := mR (MC_99 L xs) 41 0 (some 42)
set_option maxRecDepth 20000 in
theorem ST_100 (L : Nat) (xs : Nat → Int32) : pR 8 (MC_99 L xs) (some 41) 0 (some 42) = some (MC_100 L xs) := pR_of (by unfold g_k; rw [KC_99]; rfl)
theorem KC_100 (L : Nat) (xs : Nat → Int32) : (MC_100 L xs).1 = (g_K0 L).take 43 := (mR_K (MC_99 L xs) _ _ _).trans (KC_99 L xs)
set_option maxRecDepth 20000 in
theorem LN_100 (L : Nat) (xs : Nat → Int32) : (MC_100 L xs).1.length = 43 := by rw [KC_100]; rfl
def RC_100 : Nat → Nat → Option Nat := g_up RC_99 41 0 (some 42)
theorem RR_100 (L : Nat) (xs : Nat → Int32) : (MC_100 L xs).2.2.2 = RC_100 := mR_Rr (RR_99 L xs)
theorem II_100 (L : Nat) (xs : Nat → Int32) : ∀ i, i ≠ 0 → (MC_100 L xs).2.1 i = IC_99 i := mR_In (II_99 L xs)
theorem LL_100 (L : Nat) (xs : Nat → Int32) : ∀ i k, (MC_100 L xs).2.2.1 i k = 0 := mR_Ln (LL_99 L xs)
def MC_101 (L : Nat) (xs : Nat → Int32) : gM := nw (20, 49) (MC_100 L xs)
theorem NW_101 (L : Nat) (xs : Nat → Int32) : nw (20, 49) (MC_100 L xs) = MC_101 L xs := rfl
set_option maxRecDepth 20000 in
theorem KC_101 (L : Nat) (xs : Nat → Int32) : (MC_101 L xs).1 = (g_K0 L).take 44 := (nw_K _ (MC_100 L xs)).trans (by rw [KC_100]; rfl)
set_option maxRecDepth 20000 in
theorem LN_101 (L : Nat) (xs : Nat → Int32) : (MC_101 L xs).1.length = 44 := by rw [KC_101]; rfl
def RC_101 : Nat → Nat → Option Nat := g_row RC_100 43 (fun _ => none)
theorem RR_101 (L : Nat) (xs : Nat → Int32) : (MC_101 L xs).2.2.2 = RC_101 := nw_R (LN_100 L xs) (RR_100 L xs)
def IC_101 : Nat → Nat → Int32 := g_row IC_99 43 (fun _ => 0)
theorem II_101 (L : Nat) (xs : Nat → Int32) : ∀ i, i ≠ 0 → (MC_101 L xs).2.1 i = IC_101 i := nw_I (LN_100 L xs) (II_100 L xs)
theorem LL_101 (L : Nat) (xs : Nat → Int32) : ∀ i k, (MC_101 L xs).2.2.1 i k = 0 := nw_L (LL_100 L xs)
def MC_102 (L : Nat) (xs : Nat → Int32) : gM := mR (MC_101 L xs) 41 1 (some 43)
set_option maxRecDepth 20000 in
theorem ST_102 (L : Nat) (xs : Nat → Int32) : pR 8 (MC_101 L xs) (some 41) 1 (some 43) = some (MC_102 L xs) := pR_of (by unfold g_k; rw [KC_101]; rfl)
theorem KC_102 (L : Nat) (xs : Nat → Int32) : (MC_102 L xs).1 = (g_K0 L).take 44 := (mR_K (MC_101 L xs) _ _ _).trans (KC_101 L xs)
set_option maxRecDepth 20000 in
theorem LN_102 (L : Nat) (xs : Nat → Int32) : (MC_102 L xs).1.length = 44 := by rw [KC_102]; rfl
def RC_102 : Nat → Nat → Option Nat := g_up RC_101 41 1 (some 43)
theorem RR_102 (L : Nat) (xs : Nat → Int32) : (MC_102 L xs).2.2.2 = RC_102 := mR_Rr (RR_101 L xs)
theorem II_102 (L : Nat) (xs : Nat → Int32) : ∀ i, i ≠ 0 → (MC_102 L xs).2.1 i = IC_101 i := mR_In (II_101 L xs)
theorem LL_102 (L : Nat) (xs : Nat → Int32) : ∀ i k, (MC_102 L xs).2.2.1 i k = 0 := mR_Ln (LL_101 L xs)
def MC_103 (L : Nat) (xs : Nat → Int32) : gM := nw (20, 7) (MC_102 L xs)
theorem NW_103 (L : Nat) (xs : Nat → Int32) : nw (20, 7) (MC_102 L xs) = MC_103 L xs := rfl
set_option maxRecDepth 20000 in
theorem KC_103 (L : Nat) (xs : Nat → Int32) : (MC_103 L xs).1 = (g_K0 L).take 45 := (nw_K _ (MC_102 L xs)).trans (by rw [KC_102]; rfl)
set_option maxRecDepth 20000 in
theorem LN_103 (L : Nat) (xs : Nat → Int32) : (MC_103 L xs).1.length = 45 := by rw [KC_103]; rfl
def RC_103 : Nat → Nat → Option Nat := g_row RC_102 44 (fun _ => none)
theorem RR_103 (L : Nat) (xs : Nat → Int32) : (MC_103 L xs).2.2.2 = RC_103 := nw_R (LN_102 L xs) (RR_102 L xs)
def IC_103 : Nat → Nat → Int32 := g_row IC_101 44 (fun _ => 0)
theorem II_103 (L : Nat) (xs : Nat → Int32) : ∀ i, i ≠ 0 → (MC_103 L xs).2.1 i = IC_103 i := nw_I (LN_102 L xs) (II_102 L xs)
theorem LL_103 (L : Nat) (xs : Nat → Int32) : ∀ i k, (MC_103 L xs).2.2.1 i k = 0 := nw_L (LL_102 L xs)
def MC_104 (L : Nat) (xs : Nat → Int32) : gM := mR (MC_103 L xs) 41 2 (some 44)
set_option maxRecDepth 20000 in
theorem ST_104 (L : Nat) (xs : Nat → Int32) : pR 8 (MC_103 L xs) (some 41) 2 (some 44) = some (MC_104 L xs) := pR_of (by unfold g_k; rw [KC_103]; rfl)
theorem KC_104 (L : Nat) (xs : Nat → Int32) : (MC_104 L xs).1 = (g_K0 L).take 45 := (mR_K (MC_103 L xs) _ _ _).trans (KC_103 L xs)
set_option maxRecDepth 20000 in
theorem LN_104 (L : Nat) (xs : Nat → Int32) : (MC_104 L xs).1.length = 45 := by rw [KC_104]; rfl
def RC_104 : Nat → Nat → Option Nat := g_up RC_103 41 2 (some 44)
theorem RR_104 (L : Nat) (xs : Nat → Int32) : (MC_104 L xs).2.2.2 = RC_104 := mR_Rr (RR_103 L xs)
theorem II_104 (L : Nat) (xs : Nat → Int32) : ∀ i, i ≠ 0 → (MC_104 L xs).2.1 i = IC_103 i := mR_In (II_103 L xs)
theorem LL_104 (L : Nat) (xs : Nat → Int32) : ∀ i k, (MC_104 L xs).2.2.1 i k = 0 := mR_Ln (LL_103 L xs)
def MC_105 (L : Nat) (xs : Nat → Int32) : gM := nw (20, 7) (MC_104 L xs)
theorem NW_105 (L : Nat) (xs : Nat → Int32) : nw (20, 7) (MC_104 L xs) = MC_105 L xs := rfl
set_option maxRecDepth 20000 in
theorem KC_105 (L : Nat) (xs : Nat → Int32) : (MC_105 L xs).1 = (g_K0 L).take 46 := (nw_K _ (MC_104 L xs)).trans (by rw [KC_104]; rfl)
set_option maxRecDepth 20000 in
theorem LN_105 (L : Nat) (xs : Nat → Int32) : (MC_105 L xs).1.length = 46 := by rw [KC_105]; rfl
def RC_105 : Nat → Nat → Option Nat := g_row RC_104 45 (fun _ => none)
theorem RR_105 (L : Nat) (xs : Nat → Int32) : (MC_105 L xs).2.2.2 = RC_105 := nw_R (LN_104 L xs) (RR_104 L xs)
def IC_105 : Nat → Nat → Int32 := g_row IC_103 45 (fun _ => 0)
theorem II_105 (L : Nat) (xs : Nat → Int32) : ∀ i, i ≠ 0 → (MC_105 L xs).2.1 i = IC_105 i := nw_I (LN_104 L xs) (II_104 L xs)
theorem LL_105 (L : Nat) (xs : Nat → Int32) : ∀ i k, (MC_105 L xs).2.2.1 i k = 0 := nw_L (LL_104 L xs)
def MC_106 (L : Nat) (xs : Nat → Int32) : gM := mR (MC_105 L xs) 41 3 (some 45)
set_option maxRecDepth 20000 in
theorem ST_106 (L : Nat) (xs : Nat → Int32) : pR 8 (MC_105 L xs) (some 41) 3 (some 45) = some (MC_106 L xs) := pR_of (by unfold g_k; rw [KC_105]; rfl)
theorem KC_106 (L : Nat) (xs : Nat → Int32) : (MC_106 L xs).1 = (g_K0 L).take 46 := (mR_K (MC_105 L xs) _ _ _).trans (KC_105 L xs)
set_option maxRecDepth 20000 in
theorem LN_106 (L : Nat) (xs : Nat → Int32) : (MC_106 L xs).1.length = 46 := by rw [KC_106]; rfl
def RC_106 : Nat → Nat → Option Nat := g_up RC_105 41 3 (some 45)
theorem RR_106 (L : Nat) (xs : Nat → Int32) : (MC_106 L xs).2.2.2 = RC_106 := mR_Rr (RR_105 L xs)
theorem II_106 (L : Nat) (xs : Nat → Int32) : ∀ i, i ≠ 0 → (MC_106 L xs).2.1 i = IC_105 i := mR_In (II_105 L xs)
theorem LL_106 (L : Nat) (xs : Nat → Int32) : ∀ i k, (MC_106 L xs).2.2.1 i k = 0 := mR_Ln (LL_105 L xs)
def MC_107 (L : Nat) (xs : Nat → Int32) : gM := mI (MC_106 L xs) 41 4 (0 : Int32)
set_option maxRecDepth 20000 in
theorem ST_107 (L : Nat) (xs : Nat → Int32) : pI 8 (MC_106 L xs) (some 41) 4 (0 : Int32) = some (MC_107 L xs) := pI_of (by unfold g_k; rw [KC_106]; rfl)
theorem KC_107 (L : Nat) (xs : Nat → Int32) : (MC_107 L xs).1 = (g_K0 L).take 46 := (mI_K (MC_106 L xs) _ _ _).trans (KC_106 L xs)
set_option maxRecDepth 20000 in
theorem LN_107 (L : Nat) (xs : Nat → Int32) : (MC_107 L xs).1.length = 46 := by rw [KC_107]; rfl
theorem RR_107 (L : Nat) (xs : Nat → Int32) : (MC_107 L xs).2.2.2 = RC_106 := (mI_Rn (MC_106 L xs) _ _ _).trans (RR_106 L xs)
def IC_107 : Nat → Nat → Int32 := g_up IC_105 41 4 (0)
theorem II_107 (L : Nat) (xs : Nat → Int32) : ∀ i, i ≠ 0 → (MC_107 L xs).2.1 i = IC_107 i := mI_I (II_106 L xs)
theorem LL_107 (L : Nat) (xs : Nat → Int32) : ∀ i k, (MC_107 L xs).2.2.1 i k = 0 := mI_Ln (LL_106 L xs)
def MC_108 (L : Nat) (xs : Nat → Int32) : gM := mI (MC_107 L xs) 41 5 (0 : Int32)
set_option maxRecDepth 20000 in
theorem ST_108 (L : Nat) (xs : Nat → Int32) : pI 8 (MC_107 L xs) (some 41) 5 (0 : Int32) = some (MC_108 L xs) := pI_of (by unfold g_k; rw [KC_107]; rfl)
theorem KC_108 (L : Nat) (xs : Nat → Int32) : (MC_108 L xs).1 = (g_K0 L).take 46 := (mI_K (MC_107 L xs) _ _ _).trans (KC_107 L xs)
set_option maxRecDepth 20000 in
theorem LN_108 (L : Nat) (xs : Nat → Int32) : (MC_108 L xs).1.length = 46 := by rw [KC_108]; rfl
theorem RR_108 (L : Nat) (xs : Nat → Int32) : (MC_108 L xs).2.2.2 = RC_106 := (mI_Rn (MC_107 L xs) _ _ _).trans (RR_107 L xs)
def IC_108 : Nat → Nat → Int32 := g_up IC_107 41 5 (0)
theorem II_108 (L : Nat) (xs : Nat → Int32) : ∀ i, i ≠ 0 → (MC_108 L xs).2.1 i = IC_108 i := mI_I (II_107 L xs)
theorem LL_108 (L : Nat) (xs : Nat → Int32) : ∀ i k, (MC_108 L xs).2.2.1 i k = 0 := mI_Ln (LL_107 L xs)
def MC_109 (L : Nat) (xs : Nat → Int32) : gM := mI (MC_108 L xs) 41 6 (0 : Int32)
set_option maxRecDepth 20000 in
theorem ST_109 (L : Nat) (xs : Nat → Int32) : pI 8 (MC_108 L xs) (some 41) 6 (0 : Int32) = some (MC_109 L xs) := pI_of (by unfold g_k; rw [KC_108]; rfl)
theorem KC_109 (L : Nat) (xs : Nat → Int32) : (MC_109 L xs).1 = (g_K0 L).take 46 := (mI_K (MC_108 L xs) _ _ _).trans (KC_108 L xs)
set_option maxRecDepth 20000 in
theorem LN_109 (L : Nat) (xs : Nat → Int32) : (MC_109 L xs).1.length = 46 := by rw [KC_109]; rfl
theorem RR_109 (L : Nat) (xs : Nat → Int32) : (MC_109 L xs).2.2.2 = RC_106 := (mI_Rn (MC_108 L xs) _ _ _).trans (RR_108 L xs)
def IC_109 : Nat → Nat → Int32 := g_up IC_108 41 6 (0)
theorem II_109 (L : Nat) (xs : Nat → Int32) : ∀ i, i ≠ 0 → (MC_109 L xs).2.1 i = IC_109 i := mI_I (II_108 L xs)
theorem LL_109 (L : Nat) (xs : Nat → Int32) : ∀ i k, (MC_109 L xs).2.2.1 i k = 0 := mI_Ln (LL_108 L xs)
def MC_110 (L : Nat) (xs : Nat → Int32) : gM := mR (MC_109 L xs) 20 4 (some 41)
set_option maxRecDepth 20000 in
theorem ST_110 (L : Nat) (xs : Nat → Int32) : sR 24 (MC_109 L xs) (some 20) (4 : Int32) (some 41) = some (MC_110 L xs) := sR_of (n := 20) (by unfold g_k; rw [KC_109]; rfl) (by unfold g_k; rw [KC_109]; rfl) (by decide) (by decide)
theorem KC_110 (L : Nat) (xs : Nat → Int32) : (MC_110 L xs).1 = (g_K0 L).take 46 := (mR_K (MC_109 L xs) _ _ _).trans (KC_109 L xs)
set_option maxRecDepth 20000 in
theorem LN_110 (L : Nat) (xs : Nat → Int32) : (MC_110 L xs).1.length = 46 := by rw [KC_110]; rfl
def RC_110 : Nat → Nat → Option Nat := g_up RC_106 20 4 (some 41)
theorem RR_110 (L : Nat) (xs : Nat → Int32) : (MC_110 L xs).2.2.2 = RC_110 := mR_Rr (RR_109 L xs)
theorem II_110 (L : Nat) (xs : Nat → Int32) : ∀ i, i ≠ 0 → (MC_110 L xs).2.1 i = IC_109 i := mR_In (II_109 L xs)
theorem LL_110 (L : Nat) (xs : Nat → Int32) : ∀ i k, (MC_110 L xs).2.2.1 i k = 0 := mR_Ln (LL_109 L xs)
set_option maxRecDepth 20000 in
theorem GR_6 (L : Nat) (xs : Nat → Int32) : gR 4 (MC_110 L xs) (some 19) 0 = some (some 20) := gR_of (by unfold g_k; rw [KC_110]; rfl) (by rw [RR_110]; decide +kernel)
def MC_111 (L : Nat) (xs : Nat → Int32) : gM := nw (8, 0) (MC_110 L xs)
theorem NW_111 (L : Nat) (xs : Nat → Int32) : nw (8, 0) (MC_110 L xs) = MC_111 L xs := rfl
set_option maxRecDepth 20000 in
theorem KC_111 (L : Nat) (xs : Nat → Int32) : (MC_111 L xs).1 = (g_K0 L).take 47 := (nw_K _ (MC_110 L xs)).trans (by rw [KC_110]; rfl)
set_option maxRecDepth 20000 in
theorem LN_111 (L : Nat) (xs : Nat → Int32) : (MC_111 L xs).1.length = 47 := by rw [KC_111]; rfl
def RC_111 : Nat → Nat → Option Nat := g_row RC_110 46 (fun _ => none)
theorem RR_111 (L : Nat) (xs : Nat → Int32) : (MC_111 L xs).2.2.2 = RC_111 := nw_R (LN_110 L xs) (RR_110 L xs)
def IC_111 : Nat → Nat → Int32 := g_row IC_109 46 (fun _ => 0)
theorem II_111 (L : Nat) (xs : Nat → Int32) : ∀ i, i ≠ 0 → (MC_111 L xs).2.1 i = IC_111 i := nw_I (LN_110 L xs) (II_110 L xs)
theorem LL_111 (L : Nat) (xs : Nat → Int32) : ∀ i k, (MC_111 L xs).2.2.1 i k = 0 := nw_L (LL_110 L xs)
def MC_112 (L : Nat) (xs : Nat → Int32) : gM := nw (20, 49) (MC_111 L xs)
theorem NW_112 (L : Nat) (xs : Nat → Int32) : nw (20, 49) (MC_111 L xs) = MC_112 L xs := rfl
set_option maxRecDepth 20000 in
theorem KC_112 (L : Nat) (xs : Nat → Int32) : (MC_112 L xs).1 = (g_K0 L).take 48 := (nw_K _ (MC_111 L xs)).trans (by rw [KC_111]; rfl)
set_option maxRecDepth 20000 in
theorem LN_112 (L : Nat) (xs : Nat → Int32) : (MC_112 L xs).1.length = 48 := by rw [KC_112]; rfl
def RC_112 : Nat → Nat → Option Nat := g_row RC_111 47 (fun _ => none)
theorem RR_112 (L : Nat) (xs : Nat → Int32) : (MC_112 L xs).2.2.2 = RC_112 := nw_R (LN_111 L xs) (RR_111 L xs)
def IC_112 : Nat → Nat → Int32 := g_row IC_111 47 (fun _ => 0)
theorem II_112 (L : Nat) (xs : Nat → Int32) : ∀ i, i ≠ 0 → (MC_112 L xs).2.1 i = IC_112 i := nw_I (LN_111 L xs) (II_111 L xs)
theorem LL_112 (L : Nat) (xs : Nat → Int32) : ∀ i k, (MC_112 L xs).2.2.1 i k = 0 := nw_L (LL_111 L xs)
def MC_113 (L : Nat) (xs : Nat → Int32) : gM := mR (MC_112 L xs) 46 0 (some 47)
set_option maxRecDepth 20000 in
theorem ST_113 (L : Nat) (xs : Nat → Int32) : pR 8 (MC_112 L xs) (some 46) 0 (some 47) = some (MC_113 L xs) := pR_of (by unfold g_k; rw [KC_112]; rfl)
theorem KC_113 (L : Nat) (xs : Nat → Int32) : (MC_113 L xs).1 = (g_K0 L).take 48 := (mR_K (MC_112 L xs) _ _ _).trans (KC_112 L xs)
set_option maxRecDepth 20000 in
theorem LN_113 (L : Nat) (xs : Nat → Int32) : (MC_113 L xs).1.length = 48 := by rw [KC_113]; rfl
def RC_113 : Nat → Nat → Option Nat := g_up RC_112 46 0 (some 47)
theorem RR_113 (L : Nat) (xs : Nat → Int32) : (MC_113 L xs).2.2.2 = RC_113 := mR_Rr (RR_112 L xs)
theorem II_113 (L : Nat) (xs : Nat → Int32) : ∀ i, i ≠ 0 → (MC_113 L xs).2.1 i = IC_112 i := mR_In (II_112 L xs)
theorem LL_113 (L : Nat) (xs : Nat → Int32) : ∀ i k, (MC_113 L xs).2.2.1 i k = 0 := mR_Ln (LL_112 L xs)
def MC_114 (L : Nat) (xs : Nat → Int32) : gM := nw (20, 49) (MC_113 L xs)
theorem NW_114 (L : Nat) (xs : Nat → Int32) : nw (20, 49) (MC_113 L xs) = MC_114 L xs := rfl
set_option maxRecDepth 20000 in
theorem KC_114 (L : Nat) (xs : Nat → Int32) : (MC_114 L xs).1 = (g_K0 L).take 49 := (nw_K _ (MC_113 L xs)).trans (by rw [KC_113]; rfl)
set_option maxRecDepth 20000 in
theorem LN_114 (L : Nat) (xs : Nat → Int32) : (MC_114 L xs).1.length = 49 := by rw [KC_114]; rfl
def RC_114 : Nat → Nat → Option Nat := g_row RC_113 48 (fun _ => none)
theorem RR_114 (L : Nat) (xs : Nat → Int32) : (MC_114 L xs).2.2.2 = RC_114 := nw_R (LN_113 L xs) (RR_113 L xs)
def IC_114 : Nat → Nat → Int32 := g_row IC_112 48 (fun _ => 0)
theorem II_114 (L : Nat) (xs : Nat → Int32) : ∀ i, i ≠ 0 → (MC_114 L xs).2.1 i = IC_114 i := nw_I (LN_113 L xs) (II_113 L xs)
theorem LL_114 (L : Nat) (xs : Nat → Int32) : ∀ i k, (MC_114 L xs).2.2.1 i k = 0 := nw_L (LL_113 L xs)
def MC_115 (L : Nat) (xs : Nat → Int32) : gM := mR (MC_114 L xs) 46 1 (some 48)
set_option maxRecDepth 20000 in
theorem ST_115 (L : Nat) (xs : Nat → Int32) : pR 8 (MC_114 L xs) (some 46) 1 (some 48) = some (MC_115 L xs) := pR_of (by unfold g_k; rw [KC_114]; rfl)
theorem KC_115 (L : Nat) (xs : Nat → Int32) : (MC_115 L xs).1 = (g_K0 L).take 49 := (mR_K (MC_114 L xs) _ _ _).trans (KC_114 L xs)
set_option maxRecDepth 20000 in
theorem LN_115 (L : Nat) (xs : Nat → Int32) : (MC_115 L xs).1.length = 49 := by rw [KC_115]; rfl
def RC_115 : Nat → Nat → Option Nat := g_up RC_114 46 1 (some 48)
theorem RR_115 (L : Nat) (xs : Nat → Int32) : (MC_115 L xs).2.2.2 = RC_115 := mR_Rr (RR_114 L xs)
theorem II_115 (L : Nat) (xs : Nat → Int32) : ∀ i, i ≠ 0 → (MC_115 L xs).2.1 i = IC_114 i := mR_In (II_114 L xs)
theorem LL_115 (L : Nat) (xs : Nat → Int32) : ∀ i k, (MC_115 L xs).2.2.1 i k = 0 := mR_Ln (LL_114 L xs)
def MC_116 (L : Nat) (xs : Nat → Int32) : gM := nw (20, 7) (MC_115 L xs)
theorem NW_116 (L : Nat) (xs : Nat → Int32) : nw (20, 7) (MC_115 L xs) = MC_116 L xs := rfl
set_option maxRecDepth 20000 in
theorem KC_116 (L : Nat) (xs : Nat → Int32) : (MC_116 L xs).1 = (g_K0 L).take 50 := (nw_K _ (MC_115 L xs)).trans (by rw [KC_115]; rfl)
set_option maxRecDepth 20000 in
theorem LN_116 (L : Nat) (xs : Nat → Int32) : (MC_116 L xs).1.length = 50 := by rw [KC_116]; rfl
def RC_116 : Nat → Nat → Option Nat := g_row RC_115 49 (fun _ => none)
theorem RR_116 (L : Nat) (xs : Nat → Int32) : (MC_116 L xs).2.2.2 = RC_116 := nw_R (LN_115 L xs) (RR_115 L xs)
def IC_116 : Nat → Nat → Int32 := g_row IC_114 49 (fun _ => 0)
theorem II_116 (L : Nat) (xs : Nat → Int32) : ∀ i, i ≠ 0 → (MC_116 L xs).2.1 i = IC_116 i := nw_I (LN_115 L xs) (II_115 L xs)
theorem LL_116 (L : Nat) (xs : Nat → Int32) : ∀ i k, (MC_116 L xs).2.2.1 i k = 0 := nw_L (LL_115 L xs)
def MC_117 (L : Nat) (xs : Nat → Int32) : gM := mR (MC_116 L xs) 46 2 (some 49)
set_option maxRecDepth 20000 in
theorem ST_117 (L : Nat) (xs : Nat → Int32) : pR 8 (MC_116 L xs) (some 46) 2 (some 49) = some (MC_117 L xs) := pR_of (by unfold g_k; rw [KC_116]; rfl)
theorem KC_117 (L : Nat) (xs : Nat → Int32) : (MC_117 L xs).1 = (g_K0 L).take 50 := (mR_K (MC_116 L xs) _ _ _).trans (KC_116 L xs)
set_option maxRecDepth 20000 in
theorem LN_117 (L : Nat) (xs : Nat → Int32) : (MC_117 L xs).1.length = 50 := by rw [KC_117]; rfl
def RC_117 : Nat → Nat → Option Nat := g_up RC_116 46 2 (some 49)
theorem RR_117 (L : Nat) (xs : Nat → Int32) : (MC_117 L xs).2.2.2 = RC_117 := mR_Rr (RR_116 L xs)
theorem II_117 (L : Nat) (xs : Nat → Int32) : ∀ i, i ≠ 0 → (MC_117 L xs).2.1 i = IC_116 i := mR_In (II_116 L xs)
theorem LL_117 (L : Nat) (xs : Nat → Int32) : ∀ i k, (MC_117 L xs).2.2.1 i k = 0 := mR_Ln (LL_116 L xs)
def MC_118 (L : Nat) (xs : Nat → Int32) : gM := nw (20, 7) (MC_117 L xs)
theorem NW_118 (L : Nat) (xs : Nat → Int32) : nw (20, 7) (MC_117 L xs) = MC_118 L xs := rfl
set_option maxRecDepth 20000 in
theorem KC_118 (L : Nat) (xs : Nat → Int32) : (MC_118 L xs).1 = (g_K0 L).take 51 := (nw_K _ (MC_117 L xs)).trans (by rw [KC_117]; rfl)
set_option maxRecDepth 20000 in
theorem LN_118 (L : Nat) (xs : Nat → Int32) : (MC_118 L xs).1.length = 51 := by rw [KC_118]; rfl
def RC_118 : Nat → Nat → Option Nat := g_row RC_117 50 (fun _ => none)
theorem RR_118 (L : Nat) (xs : Nat → Int32) : (MC_118 L xs).2.2.2 = RC_118 := nw_R (LN_117 L xs) (RR_117 L xs)
def IC_118 : Nat → Nat → Int32 := g_row IC_116 50 (fun _ => 0)
theorem II_118 (L : Nat) (xs : Nat → Int32) : ∀ i, i ≠ 0 → (MC_118 L xs).2.1 i = IC_118 i := nw_I (LN_117 L xs) (II_117 L xs)
theorem LL_118 (L : Nat) (xs : Nat → Int32) : ∀ i k, (MC_118 L xs).2.2.1 i k = 0 := nw_L (LL_117 L xs)
def MC_119 (L : Nat) (xs : Nat → Int32) : gM := mR (MC_118 L xs) 46 3 (some 50)
set_option maxRecDepth 20000 in
theorem ST_119 (L : Nat) (xs : Nat → Int32) : pR 8 (MC_118 L xs) (some 46) 3 (some 50) = some (MC_119 L xs) := pR_of (by unfold g_k; rw [KC_118]; rfl)
theorem KC_119 (L : Nat) (xs : Nat → Int32) : (MC_119 L xs).1 = (g_K0 L).take 51 := (mR_K (MC_118 L xs) _ _ _).trans (KC_118 L xs)
set_option maxRecDepth 20000 in
theorem LN_119 (L : Nat) (xs : Nat → Int32) : (MC_119 L xs).1.length = 51 := by rw [KC_119]; rfl
def RC_119 : Nat → Nat → Option Nat := g_up RC_118 46 3 (some 50)
theorem RR_119 (L : Nat) (xs : Nat → Int32) : (MC_119 L xs).2.2.2 = RC_119 := mR_Rr (RR_118 L xs)
theorem II_119 (L : Nat) (xs : Nat → Int32) : ∀ i, i ≠ 0 → (MC_119 L xs).2.1 i = IC_118 i := mR_In (II_118 L xs)
theorem LL_119 (L : Nat) (xs : Nat → Int32) : ∀ i k, (MC_119 L xs).2.2.1 i k = 0 := mR_Ln (LL_118 L xs)
def MC_120 (L : Nat) (xs : Nat → Int32) : gM := mI (MC_119 L xs) 46 4 (0 : Int32)
set_option maxRecDepth 20000 in
theorem ST_120 (L : Nat) (xs : Nat → Int32) : pI 8 (MC_119 L xs) (some 46) 4 (0 : Int32) = some (MC_120 L xs) := pI_of (by unfold g_k; rw [KC_119]; rfl)
theorem KC_120 (L : Nat) (xs : Nat → Int32) : (MC_120 L xs).1 = (g_K0 L).take 51 := (mI_K (MC_119 L xs) _ _ _).trans (KC_119 L xs)
set_option maxRecDepth 20000 in
theorem LN_120 (L : Nat) (xs : Nat → Int32) : (MC_120 L xs).1.length = 51 := by rw [KC_120]; rfl
theorem RR_120 (L : Nat) (xs : Nat → Int32) : (MC_120 L xs).2.2.2 = RC_119 := (mI_Rn (MC_119 L xs) _ _ _).trans (RR_119 L xs)
def IC_120 : Nat → Nat → Int32 := g_up IC_118 46 4 (0)
theorem II_120 (L : Nat) (xs : Nat → Int32) : ∀ i, i ≠ 0 → (MC_120 L xs).2.1 i = IC_120 i := mI_I (II_119 L xs)
theorem LL_120 (L : Nat) (xs : Nat → Int32) : ∀ i k, (MC_120 L xs).2.2.1 i k = 0 := mI_Ln (LL_119 L xs)
def MC_121 (L : Nat) (xs : Nat → Int32) : gM := mI (MC_120 L xs) 46 5 (0 : Int32)
set_option maxRecDepth 20000 in
theorem ST_121 (L : Nat) (xs : Nat → Int32) : pI 8 (MC_120 L xs) (some 46) 5 (0 : Int32) = some (MC_121 L xs) := pI_of (by unfold g_k; rw [KC_120]; rfl)
theorem KC_121 (L : Nat) (xs : Nat → Int32) : (MC_121 L xs).1 = (g_K0 L).take 51 := (mI_K (MC_120 L xs) _ _ _).trans (KC_120 L xs)
set_option maxRecDepth 20000 in
theorem LN_121 (L : Nat) (xs : Nat → Int32) : (MC_121 L xs).1.length = 51 := by rw [KC_121]; rfl
theorem RR_121 (L : Nat) (xs : Nat → Int32) : (MC_121 L xs).2.2.2 = RC_119 := (mI_Rn (MC_120 L xs) _ _ _).trans (RR_120 L xs)
def IC_121 : Nat → Nat → Int32 := g_up IC_120 46 5 (0)
theorem II_121 (L : Nat) (xs : Nat → Int32) : ∀ i, i ≠ 0 → (MC_121 L xs).2.1 i = IC_121 i := mI_I (II_120 L xs)
theorem LL_121 (L : Nat) (xs : Nat → Int32) : ∀ i k, (MC_121 L xs).2.2.1 i k = 0 := mI_Ln (LL_120 L xs)
def MC_122 (L : Nat) (xs : Nat → Int32) : gM := mI (MC_121 L xs) 46 6 (0 : Int32)
set_option maxRecDepth 20000 in
theorem ST_122 (L : Nat) (xs : Nat → Int32) : pI 8 (MC_121 L xs) (some 46) 6 (0 : Int32) = some (MC_122 L xs) := pI_of (by unfold g_k; rw [KC_121]; rfl)
theorem KC_122 (L : Nat) (xs : Nat → Int32) : (MC_122 L xs).1 = (g_K0 L).take 51 := (mI_K (MC_121 L xs) _ _ _).trans (KC_121 L xs)
set_option maxRecDepth 20000 in
theorem LN_122 (L : Nat) (xs : Nat → Int32) : (MC_122 L xs).1.length = 51 := by rw [KC_122]; rfl
theorem RR_122 (L : Nat) (xs : Nat → Int32) : (MC_122 L xs).2.2.2 = RC_119 := (mI_Rn (MC_121 L xs) _ _ _).trans (RR_121 L xs)
def IC_122 : Nat → Nat → Int32 := g_up IC_121 46 6 (0)
theorem II_122 (L : Nat) (xs : Nat → Int32) : ∀ i, i ≠ 0 → (MC_122 L xs).2.1 i = IC_122 i := mI_I (II_121 L xs)
theorem LL_122 (L : Nat) (xs : Nat → Int32) : ∀ i k, (MC_122 L xs).2.2.1 i k = 0 := mI_Ln (LL_121 L xs)
def MC_123 (L : Nat) (xs : Nat → Int32) : gM := mR (MC_122 L xs) 20 5 (some 46)
set_option maxRecDepth 20000 in
theorem ST_123 (L : Nat) (xs : Nat → Int32) : sR 24 (MC_122 L xs) (some 20) (5 : Int32) (some 46) = some (MC_123 L xs) := sR_of (n := 20) (by unfold g_k; rw [KC_122]; rfl) (by unfold g_k; rw [KC_122]; rfl) (by decide) (by decide)
theorem KC_123 (L : Nat) (xs : Nat → Int32) : (MC_123 L xs).1 = (g_K0 L).take 51 := (mR_K (MC_122 L xs) _ _ _).trans (KC_122 L xs)
set_option maxRecDepth 20000 in
theorem LN_123 (L : Nat) (xs : Nat → Int32) : (MC_123 L xs).1.length = 51 := by rw [KC_123]; rfl
def RC_123 : Nat → Nat → Option Nat := g_up RC_119 20 5 (some 46)
theorem RR_123 (L : Nat) (xs : Nat → Int32) : (MC_123 L xs).2.2.2 = RC_123 := mR_Rr (RR_122 L xs)
theorem II_123 (L : Nat) (xs : Nat → Int32) : ∀ i, i ≠ 0 → (MC_123 L xs).2.1 i = IC_122 i := mR_In (II_122 L xs)
theorem LL_123 (L : Nat) (xs : Nat → Int32) : ∀ i k, (MC_123 L xs).2.2.1 i k = 0 := mR_Ln (LL_122 L xs)
set_option maxRecDepth 20000 in
theorem GR_7 (L : Nat) (xs : Nat → Int32) : gR 4 (MC_123 L xs) (some 19) 0 = some (some 20) := gR_of (by unfold g_k; rw [KC_123]; rfl) (by rw [RR_123]; decide +kernel)
def MC_124 (L : Nat) (xs : Nat → Int32) : gM := nw (8, 0) (MC_123 L xs)
theorem NW_124 (L : Nat) (xs : Nat → Int32) : nw (8, 0) (MC_123 L xs) = MC_124 L xs := rfl
set_option maxRecDepth 20000 in
theorem KC_124 (L : Nat) (xs : Nat → Int32) : (MC_124 L xs).1 = (g_K0 L).take 52 := (nw_K _ (MC_123 L xs)).trans (by rw [KC_123]; rfl)
set_option maxRecDepth 20000 in
theorem LN_124 (L : Nat) (xs : Nat → Int32) : (MC_124 L xs).1.length = 52 := by rw [KC_124]; rfl
def RC_124 : Nat → Nat → Option Nat := g_row RC_123 51 (fun _ => none)
theorem RR_124 (L : Nat) (xs : Nat → Int32) : (MC_124 L xs).2.2.2 = RC_124 := nw_R (LN_123 L xs) (RR_123 L xs)
def IC_124 : Nat → Nat → Int32 := g_row IC_122 51 (fun _ => 0)
theorem II_124 (L : Nat) (xs : Nat → Int32) : ∀ i, i ≠ 0 → (MC_124 L xs).2.1 i = IC_124 i := nw_I (LN_123 L xs) (II_123 L xs)
theorem LL_124 (L : Nat) (xs : Nat → Int32) : ∀ i k, (MC_124 L xs).2.2.1 i k = 0 := nw_L (LL_123 L xs)
def MC_125 (L : Nat) (xs : Nat → Int32) : gM := nw (20, 49) (MC_124 L xs)
theorem NW_125 (L : Nat) (xs : Nat → Int32) : nw (20, 49) (MC_124 L xs) = MC_125 L xs := rfl
set_option maxRecDepth 20000 in
theorem KC_125 (L : Nat) (xs : Nat → Int32) : (MC_125 L xs).1 = (g_K0 L).take 53 := (nw_K _ (MC_124 L xs)).trans (by rw [KC_124]; rfl)
set_option maxRecDepth 20000 in
theorem LN_125 (L : Nat) (xs : Nat → Int32) : (MC_125 L xs).1.length = 53 := by rw [KC_125]; rfl
def RC_125 : Nat → Nat → Option Nat := g_row RC_124 52 (fun _ => none)
theorem RR_125 (L : Nat) (xs : Nat → Int32) : (MC_125 L xs).2.2.2 = RC_125 := nw_R (LN_124 L xs) (RR_124 L xs)
def IC_125 : Nat → Nat → Int32 := g_row IC_124 52 (fun _ => 0)
theorem II_125 (L : Nat) (xs : Nat → Int32) : ∀ i, i ≠ 0 → (MC_125 L xs).2.1 i = IC_125 i := nw_I (LN_124 L xs) (II_124 L xs)
theorem LL_125 (L : Nat) (xs : Nat → Int32) : ∀ i k, (MC_125 L xs).2.2.1 i k = 0 := nw_L (LL_124 L xs)
def MC_126 (L : Nat) (xs : Nat → Int32) : gM := mR (MC_125 L xs) 51 0 (some 52)
set_option maxRecDepth 20000 in
theorem ST_126 (L : Nat) (xs : Nat → Int32) : pR 8 (MC_125 L xs) (some 51) 0 (some 52) = some (MC_126 L xs) := pR_of (by unfold g_k; rw [KC_125]; rfl)
theorem KC_126 (L : Nat) (xs : Nat → Int32) : (MC_126 L xs).1 = (g_K0 L).take 53 := (mR_K (MC_125 L xs) _ _ _).trans (KC_125 L xs)
set_option maxRecDepth 20000 in
theorem LN_126 (L : Nat) (xs : Nat → Int32) : (MC_126 L xs).1.length = 53 := by rw [KC_126]; rfl
def RC_126 : Nat → Nat → Option Nat := g_up RC_125 51 0 (some 52)
theorem RR_126 (L : Nat) (xs : Nat → Int32) : (MC_126 L xs).2.2.2 = RC_126 := mR_Rr (RR_125 L xs)
theorem II_126 (L : Nat) (xs : Nat → Int32) : ∀ i, i ≠ 0 → (MC_126 L xs).2.1 i = IC_125 i := mR_In (II_125 L xs)
theorem LL_126 (L : Nat) (xs : Nat → Int32) : ∀ i k, (MC_126 L xs).2.2.1 i k = 0 := mR_Ln (LL_125 L xs)
def MC_127 (L : Nat) (xs : Nat → Int32) : gM := nw (20, 49) (MC_126 L xs)
theorem NW_127 (L : Nat) (xs : Nat → Int32) : nw (20, 49) (MC_126 L xs) = MC_127 L xs := rfl
set_option maxRecDepth 20000 in
theorem KC_127 (L : Nat) (xs : Nat → Int32) : (MC_127 L xs).1 = (g_K0 L).take 54 := (nw_K _ (MC_126 L xs)).trans (by rw [KC_126]; rfl)
set_option maxRecDepth 20000 in
theorem LN_127 (L : Nat) (xs : Nat → Int32) : (MC_127 L xs).1.length = 54 := by rw [KC_127]; rfl
def RC_127 : Nat → Nat → Option Nat := g_row RC_126 53 (fun _ => none)
theorem RR_127 (L : Nat) (xs : Nat → Int32) : (MC_127 L xs).2.2.2 = RC_127 := nw_R (LN_126 L xs) (RR_126 L xs)
def IC_127 : Nat → Nat → Int32 := g_row IC_125 53 (fun _ => 0)
theorem II_127 (L : Nat) (xs : Nat → Int32) : ∀ i, i ≠ 0 → (MC_127 L xs).2.1 i = IC_127 i := nw_I (LN_126 L xs) (II_126 L xs)
theorem LL_127 (L : Nat) (xs : Nat → Int32) : ∀ i k, (MC_127 L xs).2.2.1 i k = 0 := nw_L (LL_126 L xs)
def MC_128 (L : Nat) (xs : Nat → Int32) : gM := mR (MC_127 L xs) 51 1 (some 53)
set_option maxRecDepth 20000 in
theorem ST_128 (L : Nat) (xs : Nat → Int32) : pR 8 (MC_127 L xs) (some 51) 1 (some 53) = some (MC_128 L xs) := pR_of (by unfold g_k; rw [KC_127]; rfl)
theorem KC_128 (L : Nat) (xs : Nat → Int32) : (MC_128 L xs).1 = (g_K0 L).take 54 := (mR_K (MC_127 L xs) _ _ _).trans (KC_127 L xs)
set_option maxRecDepth 20000 in
theorem LN_128 (L : Nat) (xs : Nat → Int32) : (MC_128 L xs).1.length = 54 := by rw [KC_128]; rfl
def RC_128 : Nat → Nat → Option Nat := g_up RC_127 51 1 (some 53)
theorem RR_128 (L : Nat) (xs : Nat → Int32) : (MC_128 L xs).2.2.2 = RC_128 := mR_Rr (RR_127 L xs)
theorem II_128 (L : Nat) (xs : Nat → Int32) : ∀ i, i ≠ 0 → (MC_128 L xs).2.1 i = IC_127 i := mR_In (II_127 L xs)
theorem LL_128 (L : Nat) (xs : Nat → Int32) : ∀ i k, (MC_128 L xs).2.2.1 i k = 0 := mR_Ln (LL_127 L xs)
def MC_129 (L : Nat) (xs : Nat → Int32) : gM := nw (20, 7) (MC_128 L xs)
theorem NW_129 (L : Nat) (xs : Nat → Int32) : nw (20, 7) (MC_128 L xs) = MC_129 L xs := rfl
set_option maxRecDepth 20000 in
theorem KC_129 (L : Nat) (xs : Nat → Int32) : (MC_129 L xs).1 = (g_K0 L).take 55 := (nw_K _ (MC_128 L xs)).trans (by rw [KC_128]; rfl)
set_option maxRecDepth 20000 in
theorem LN_129 (L : Nat) (xs : Nat → Int32) : (MC_129 L xs).1.length = 55 := by rw [KC_129]; rfl
def RC_129 : Nat → Nat → Option Nat := g_row RC_128 54 (fun _ => none)
theorem RR_129 (L : Nat) (xs : Nat → Int32) : (MC_129 L xs).2.2.2 = RC_129 := nw_R (LN_128 L xs) (RR_128 L xs)
def IC_129 : Nat → Nat → Int32 := g_row IC_127 54 (fun _ => 0)
theorem II_129 (L : Nat) (xs : Nat → Int32) : ∀ i, i ≠ 0 → (MC_129 L xs).2.1 i = IC_129 i := nw_I (LN_128 L xs) (II_128 L xs)
theorem LL_129 (L : Nat) (xs : Nat → Int32) : ∀ i k, (MC_129 L xs).2.2.1 i k = 0 := nw_L (LL_128 L xs)
def MC_130 (L : Nat) (xs : Nat → Int32) : gM := mR (MC_129 L xs) 51 2 (some 54)
set_option maxRecDepth 20000 in
theorem ST_130 (L : Nat) (xs : Nat → Int32) : pR 8 (MC_129 L xs) (some 51) 2 (some 54) = some (MC_130 L xs) := pR_of (by unfold g_k; rw [KC_129]; rfl)
theorem KC_130 (L : Nat) (xs : Nat → Int32) : (MC_130 L xs).1 = (g_K0 L).take 55 := (mR_K (MC_129 L xs) _ _ _).trans (KC_129 L xs)
set_option maxRecDepth 20000 in
theorem LN_130 (L : Nat) (xs : Nat → Int32) : (MC_130 L xs).1.length = 55 := by rw [KC_130]; rfl
def RC_130 : Nat → Nat → Option Nat := g_up RC_129 51 2 (some 54)
theorem RR_130 (L : Nat) (xs : Nat → Int32) : (MC_130 L xs).2.2.2 = RC_130 := mR_Rr (RR_129 L xs)
theorem II_130 (L : Nat) (xs : Nat → Int32) : ∀ i, i ≠ 0 → (MC_130 L xs).2.1 i = IC_129 i := mR_In (II_129 L xs)
theorem LL_130 (L : Nat) (xs : Nat → Int32) : ∀ i k, (MC_130 L xs).2.2.1 i k = 0 := mR_Ln (LL_129 L xs)
def MC_131 (L : Nat) (xs : Nat → Int32) : gM := nw (20, 7) (MC_130 L xs)
theorem NW_131 (L : Nat) (xs : Nat → Int32) : nw (20, 7) (MC_130 L xs) = MC_131 L xs := rfl
set_option maxRecDepth 20000 in
theorem KC_131 (L : Nat) (xs : Nat → Int32) : (MC_131 L xs).1 = (g_K0 L).take 56 := (nw_K _ (MC_130 L xs)).trans (by rw [KC_130]; rfl)
set_option maxRecDepth 20000 in
theorem LN_131 (L : Nat) (xs : Nat → Int32) : (MC_131 L xs).1.length = 56 := by rw [KC_131]; rfl
def RC_131 : Nat → Nat → Option Nat := g_row RC_130 55 (fun _ => none)
theorem RR_131 (L : Nat) (xs : Nat → Int32) : (MC_131 L xs).2.2.2 = RC_131 := nw_R (LN_130 L xs) (RR_130 L xs)
def IC_131 : Nat → Nat → Int32 := g_row IC_129 55 (fun _ => 0)
theorem II_131 (L : Nat) (xs : Nat → Int32) : ∀ i, i ≠ 0 → (MC_131 L xs).2.1 i = IC_131 i := nw_I (LN_130 L xs) (II_130 L xs)
theorem LL_131 (L : Nat) (xs : Nat → Int32) : ∀ i k, (MC_131 L xs).2.2.1 i k = 0 := nw_L (LL_130 L xs)
def MC_132 (L : Nat) (xs : Nat → Int32) : gM := mR (MC_131 L xs) 51 3 (some 55)
set_option maxRecDepth 20000 in
theorem ST_132 (L : Nat) (xs : Nat → Int32) : pR 8 (MC_131 L xs) (some 51) 3 (some 55) = some (MC_132 L xs) := pR_of (by unfold g_k; rw [KC_131]; rfl)
theorem KC_132 (L : Nat) (xs : Nat → Int32) : (MC_132 L xs).1 = (g_K0 L).take 56 := (mR_K (MC_131 L xs) _ _ _).trans (KC_131 L xs)
set_option maxRecDepth 20000 in
theorem LN_132 (L : Nat) (xs : Nat → Int32) : (MC_132 L xs).1.length = 56 := by rw [KC_132]; rfl
def RC_132 : Nat → Nat → Option Nat := g_up RC_131 51 3 (some 55)
theorem RR_132 (L : Nat) (xs : Nat → Int32) : (MC_132 L xs).2.2.2 = RC_132 := mR_Rr (RR_131 L xs)
theorem II_132 (L : Nat) (xs : Nat → Int32) : ∀ i, i ≠ 0 → (MC_132 L xs).2.1 i = IC_131 i := mR_In (II_131 L xs)
theorem LL_132 (L : Nat) (xs : Nat → Int32) : ∀ i k, (MC_132 L xs).2.2.1 i k = 0 := mR_Ln (LL_131 L xs)
def MC_133 (L : Nat) (xs : Nat → Int32) : gM := mI (MC_132 L xs) 51 4 (0 : Int32)
set_option maxRecDepth 20000 in
theorem ST_133 (L : Nat) (xs : Nat → Int32) : pI 8 (MC_132 L xs) (some 51) 4 (0 : Int32) = some (MC_133 L xs) := pI_of (by unfold g_k; rw [KC_132]; rfl)
theorem KC_133 (L : Nat) (xs : Nat → Int32) : (MC_133 L xs).1 = (g_K0 L).take 56 := (mI_K (MC_132 L xs) _ _ _).trans (KC_132 L xs)
set_option maxRecDepth 20000 in
theorem LN_133 (L : Nat) (xs : Nat → Int32) : (MC_133 L xs).1.length = 56 := by rw [KC_133]; rfl
theorem RR_133 (L : Nat) (xs : Nat → Int32) : (MC_133 L xs).2.2.2 = RC_132 := (mI_Rn (MC_132 L xs) _ _ _).trans (RR_132 L xs)
def IC_133 : Nat → Nat → Int32 := g_up IC_131 51 4 (0)
theorem II_133 (L : Nat) (xs : Nat → Int32) : ∀ i, i ≠ 0 → (MC_133 L xs).2.1 i = IC_133 i := mI_I (II_132 L xs)
theorem LL_133 (L : Nat) (xs : Nat → Int32) : ∀ i k, (MC_133 L xs).2.2.1 i k = 0 := mI_Ln (LL_132 L xs)
def MC_134 (L : Nat) (xs : Nat → Int32) : gM := mI (MC_133 L xs) 51 5 (0 : Int32)
set_option maxRecDepth 20000 in
theorem ST_134 (L : Nat) (xs : Nat → Int32) : pI 8 (MC_133 L xs) (some 51) 5 (0 : Int32) = some (MC_134 L xs) := pI_of (by unfold g_k; rw [KC_133]; rfl)
theorem KC_134 (L : Nat) (xs : Nat → Int32) : (MC_134 L xs).1 = (g_K0 L).take 56 := (mI_K (MC_133 L xs) _ _ _).trans (KC_133 L xs)
set_option maxRecDepth 20000 in
theorem LN_134 (L : Nat) (xs : Nat → Int32) : (MC_134 L xs).1.length = 56 := by rw [KC_134]; rfl
theorem RR_134 (L : Nat) (xs : Nat → Int32) : (MC_134 L xs).2.2.2 = RC_132 := (mI_Rn (MC_133 L xs) _ _ _).trans (RR_133 L xs)
def IC_134 : Nat → Nat → Int32 := g_up IC_133 51 5 (0)
theorem II_134 (L : Nat) (xs : Nat → Int32) : ∀ i, i ≠ 0 → (MC_134 L xs).2.1 i = IC_134 i := mI_I (II_133 L xs)
theorem LL_134 (L : Nat) (xs : Nat → Int32) : ∀ i k, (MC_134 L xs).2.2.1 i k = 0 := mI_Ln (LL_133 L xs)
def MC_135 (L : Nat) (xs : Nat → Int32) : gM := mI (MC_134 L xs) 51 6 (0 : Int32)
set_option maxRecDepth 20000 in
theorem ST_135 (L : Nat) (xs : Nat → Int32) : pI 8 (MC_134 L xs) (some 51) 6 (0 : Int32) = some (MC_135 L xs) := pI_of (by unfold g_k; rw [KC_134]; rfl)
theorem KC_135 (L : Nat) (xs : Nat → Int32) : (MC_135 L xs).1 = (g_K0 L).take 56 := (mI_K (MC_134 L xs) _ _ _).trans (KC_134 L xs)
set_option maxRecDepth 20000 in
theorem LN_135 (L : Nat) (xs : Nat → Int32) : (MC_135 L xs).1.length = 56 := by rw [KC_135]; rfl
theorem RR_135 (L : Nat) (xs : Nat → Int32) : (MC_135 L xs).2.2.2 = RC_132 := (mI_Rn (MC_134 L xs) _ _ _).trans (RR_134 L xs)
def IC_135 : Nat → Nat → Int32 := g_up IC_134 51 6 (0)
theorem II_135 (L : Nat) (xs : Nat → Int32) : ∀ i, i ≠ 0 → (MC_135 L xs).2.1 i = IC_135 i := mI_I (II_134 L xs)
theorem LL_135 (L : Nat) (xs : Nat → Int32) : ∀ i k, (MC_135 L xs).2.2.1 i k = 0 := mI_Ln (LL_134 L xs)
def MC_136 (L : Nat) (xs : Nat → Int32) : gM := mR (MC_135 L xs) 20 6 (some 51)
set_option maxRecDepth 20000 in
theorem ST_136 (L : Nat) (xs : Nat → Int32) : sR 24 (MC_135 L xs) (some 20) (6 : Int32) (some 51) = some (MC_136 L xs) := sR_of (n := 20) (by unfold g_k; rw [KC_135]; rfl) (by unfold g_k; rw [KC_135]; rfl) (by decide) (by decide)
theorem KC_136 (L : Nat) (xs : Nat → Int32) : (MC_136 L xs).1 = (g_K0 L).take 56 := (mR_K (MC_135 L xs) _ _ _).trans (KC_135 L xs)
set_option maxRecDepth 20000 in
theorem LN_136 (L : Nat) (xs : Nat → Int32) : (MC_136 L xs).1.length = 56 := by rw [KC_136]; rfl
def RC_136 : Nat → Nat → Option Nat := g_up RC_132 20 6 (some 51)
theorem RR_136 (L : Nat) (xs : Nat → Int32) : (MC_136 L xs).2.2.2 = RC_136 := mR_Rr (RR_135 L xs)
theorem II_136 (L : Nat) (xs : Nat → Int32) : ∀ i, i ≠ 0 → (MC_136 L xs).2.1 i = IC_135 i := mR_In (II_135 L xs)
theorem LL_136 (L : Nat) (xs : Nat → Int32) : ∀ i k, (MC_136 L xs).2.2.1 i k = 0 := mR_Ln (LL_135 L xs)
set_option maxRecDepth 20000 in
theorem GR_8 (L : Nat) (xs : Nat → Int32) : gR 4 (MC_136 L xs) (some 19) 0 = some (some 20) := gR_of (by unfold g_k; rw [KC_136]; rfl) (by rw [RR_136]; decide +kernel)
def MC_137 (L : Nat) (xs : Nat → Int32) : gM := nw (8, 0) (MC_136 L xs)
theorem NW_137 (L : Nat) (xs : Nat → Int32) : nw (8, 0) (MC_136 L xs) = MC_137 L xs := rfl
set_option maxRecDepth 20000 in
theorem KC_137 (L : Nat) (xs : Nat → Int32) : (MC_137 L xs).1 = (g_K0 L).take 57 := (nw_K _ (MC_136 L xs)).trans (by rw [KC_136]; rfl)
set_option maxRecDepth 20000 in
theorem LN_137 (L : Nat) (xs : Nat → Int32) : (MC_137 L xs).1.length = 57 := by rw [KC_137]; rfl
def RC_137 : Nat → Nat → Option Nat := g_row RC_136 56 (fun _ => none)
theorem RR_137 (L : Nat) (xs : Nat → Int32) : (MC_137 L xs).2.2.2 = RC_137 := nw_R (LN_136 L xs) (RR_136 L xs)
def IC_137 : Nat → Nat → Int32 := g_row IC_135 56 (fun _ => 0)
theorem II_137 (L : Nat) (xs : Nat → Int32) : ∀ i, i ≠ 0 → (MC_137 L xs).2.1 i = IC_137 i := nw_I (LN_136 L xs) (II_136 L xs)
theorem LL_137 (L : Nat) (xs : Nat → Int32) : ∀ i k, (MC_137 L xs).2.2.1 i k = 0 := nw_L (LL_136 L xs)
def MC_138 (L : Nat) (xs : Nat → Int32) : gM := nw (20, 49) (MC_137 L xs)
theorem NW_138 (L : Nat) (xs : Nat → Int32) : nw (20, 49) (MC_137 L xs) = MC_138 L xs := rfl
set_option maxRecDepth 20000 in
theorem KC_138 (L : Nat) (xs : Nat → Int32) : (MC_138 L xs).1 = (g_K0 L).take 58 := (nw_K _ (MC_137 L xs)).trans (by rw [KC_137]; rfl)
set_option maxRecDepth 20000 in
theorem LN_138 (L : Nat) (xs : Nat → Int32) : (MC_138 L xs).1.length = 58 := by rw [KC_138]; rfl
def RC_138 : Nat → Nat → Option Nat := g_row RC_137 57 (fun _ => none)
theorem RR_138 (L : Nat) (xs : Nat → Int32) : (MC_138 L xs).2.2.2 = RC_138 := nw_R (LN_137 L xs) (RR_137 L xs)
def IC_138 : Nat → Nat → Int32 := g_row IC_137 57 (fun _ => 0)
theorem II_138 (L : Nat) (xs : Nat → Int32) : ∀ i, i ≠ 0 → (MC_138 L xs).2.1 i = IC_138 i := nw_I (LN_137 L xs) (II_137 L xs)
theorem LL_138 (L : Nat) (xs : Nat → Int32) : ∀ i k, (MC_138 L xs).2.2.1 i k = 0 := nw_L (LL_137 L xs)
def MC_139 (L : Nat) (xs : Nat → Int32) : gM := mR (MC_138 L xs) 56 0 (some 57)
set_option maxRecDepth 20000 in
theorem ST_139 (L : Nat) (xs : Nat → Int32) : pR 8 (MC_138 L xs) (some 56) 0 (some 57) = some (MC_139 L xs) := pR_of (by unfold g_k; rw [KC_138]; rfl)
theorem KC_139 (L : Nat) (xs : Nat → Int32) : (MC_139 L xs).1 = (g_K0 L).take 58 := (mR_K (MC_138 L xs) _ _ _).trans (KC_138 L xs)
set_option maxRecDepth 20000 in
theorem LN_139 (L : Nat) (xs : Nat → Int32) : (MC_139 L xs).1.length = 58 := by rw [KC_139]; rfl
def RC_139 : Nat → Nat → Option Nat := g_up RC_138 56 0 (some 57)
theorem RR_139 (L : Nat) (xs : Nat → Int32) : (MC_139 L xs).2.2.2 = RC_139 := mR_Rr (RR_138 L xs)
theorem II_139 (L : Nat) (xs : Nat → Int32) : ∀ i, i ≠ 0 → (MC_139 L xs).2.1 i = IC_138 i := mR_In (II_138 L xs)
theorem LL_139 (L : Nat) (xs : Nat → Int32) : ∀ i k, (MC_139 L xs).2.2.1 i k = 0 := mR_Ln (LL_138 L xs)
def MC_140 (L : Nat) (xs : Nat → Int32) : gM := nw (20, 49) (MC_139 L xs)
theorem NW_140 (L : Nat) (xs : Nat → Int32) : nw (20, 49) (MC_139 L xs) = MC_140 L xs := rfl
set_option maxRecDepth 20000 in
theorem KC_140 (L : Nat) (xs : Nat → Int32) : (MC_140 L xs).1 = (g_K0 L).take 59 := (nw_K _ (MC_139 L xs)).trans (by rw [KC_139]; rfl)
set_option maxRecDepth 20000 in
theorem LN_140 (L : Nat) (xs : Nat → Int32) : (MC_140 L xs).1.length = 59 := by rw [KC_140]; rfl
def RC_140 : Nat → Nat → Option Nat := g_row RC_139 58 (fun _ => none)
theorem RR_140 (L : Nat) (xs : Nat → Int32) : (MC_140 L xs).2.2.2 = RC_140 := nw_R (LN_139 L xs) (RR_139 L xs)
def IC_140 : Nat → Nat → Int32 := g_row IC_138 58 (fun _ => 0)
theorem II_140 (L : Nat) (xs : Nat → Int32) : ∀ i, i ≠ 0 → (MC_140 L xs).2.1 i = IC_140 i := nw_I (LN_139 L xs) (II_139 L xs)
theorem LL_140 (L : Nat) (xs : Nat → Int32) : ∀ i k, (MC_140 L xs).2.2.1 i k = 0 := nw_L (LL_139 L xs)
def MC_141 (L : Nat) (xs : Nat → Int32) : gM := mR (MC_140 L xs) 56 1 (some 58)
set_option maxRecDepth 20000 in
theorem ST_141 (L : Nat) (xs : Nat → Int32) : pR 8 (MC_140 L xs) (some 56) 1 (some 58) = some (MC_141 L xs) := pR_of (by unfold g_k; rw [KC_140]; rfl)
theorem KC_141 (L : Nat) (xs : Nat → Int32) : (MC_141 L xs).1 = (g_K0 L).take 59 := (mR_K (MC_140 L xs) _ _ _).trans (KC_140 L xs)
set_option maxRecDepth 20000 in
theorem LN_141 (L : Nat) (xs : Nat → Int32) : (MC_141 L xs).1.length = 59 := by rw [KC_141]; rfl
def RC_141 : Nat → Nat → Option Nat := g_up RC_140 56 1 (some 58)
theorem RR_141 (L : Nat) (xs : Nat → Int32) : (MC_141 L xs).2.2.2 = RC_141 := mR_Rr (RR_140 L xs)
theorem II_141 (L : Nat) (xs : Nat → Int32) : ∀ i, i ≠ 0 → (MC_141 L xs).2.1 i = IC_140 i := mR_In (II_140 L xs)
theorem LL_141 (L : Nat) (xs : Nat → Int32) : ∀ i k, (MC_141 L xs).2.2.1 i k = 0 := mR_Ln (LL_140 L xs)
def MC_142 (L : Nat) (xs : Nat → Int32) : gM := nw (20, 7) (MC_141 L xs)
theorem NW_142 (L : Nat) (xs : Nat → Int32) : nw (20, 7) (MC_141 L xs) = MC_142 L xs := rfl
set_option maxRecDepth 20000 in
theorem KC_142 (L : Nat) (xs : Nat → Int32) : (MC_142 L xs).1 = (g_K0 L).take 60 := (nw_K _ (MC_141 L xs)).trans (by rw [KC_141]; rfl)
set_option maxRecDepth 20000 in
theorem LN_142 (L : Nat) (xs : Nat → Int32) : (MC_142 L xs).1.length = 60 := by rw [KC_142]; rfl
def RC_142 : Nat → Nat → Option Nat := g_row RC_141 59 (fun _ => none)
theorem RR_142 (L : Nat) (xs : Nat → Int32) : (MC_142 L xs).2.2.2 = RC_142 := nw_R (LN_141 L xs) (RR_141 L xs)
def IC_142 : Nat → Nat → Int32 := g_row IC_140 59 (fun _ => 0)
theorem II_142 (L : Nat) (xs : Nat → Int32) : ∀ i, i ≠ 0 → (MC_142 L xs).2.1 i = IC_142 i := nw_I (LN_141 L xs) (II_141 L xs)
theorem LL_142 (L : Nat) (xs : Nat → Int32) : ∀ i k, (MC_142 L xs).2.2.1 i k = 0 := nw_L (LL_141 L xs)
def MC_143 (L : Nat) (xs : Nat → Int32) : gM := mR (MC_142 L xs) 56 2 (some 59)
set_option maxRecDepth 20000 in
theorem ST_143 (L : Nat) (xs : Nat → Int32) : pR 8 (MC_142 L xs) (some 56) 2 (some 59) = some (MC_143 L xs) := pR_of (by unfold g_k; rw [KC_142]; rfl)
theorem KC_143 (L : Nat) (xs : Nat → Int32) : (MC_143 L xs).1 = (g_K0 L).take 60 := (mR_K (MC_142 L xs) _ _ _).trans (KC_142 L xs)
set_option maxRecDepth 20000 in
theorem LN_143 (L : Nat) (xs : Nat → Int32) : (MC_143 L xs).1.length = 60 := by rw [KC_143]; rfl
def RC_143 : Nat → Nat → Option Nat := g_up RC_142 56 2 (some 59)
theorem RR_143 (L : Nat) (xs : Nat → Int32) : (MC_143 L xs).2.2.2 = RC_143 := mR_Rr (RR_142 L xs)
theorem II_143 (L : Nat) (xs : Nat → Int32) : ∀ i, i ≠ 0 → (MC_143 L xs).2.1 i = IC_142 i := mR_In (II_142 L xs)
theorem LL_143 (L : Nat) (xs : Nat → Int32) : ∀ i k, (MC_143 L xs).2.2.1 i k = 0 := mR_Ln (LL_142 L xs)
def MC_144 (L : Nat) (xs : Nat → Int32) : gM := nw (20, 7) (MC_143 L xs)
theorem NW_144 (L : Nat) (xs : Nat → Int32) : nw (20, 7) (MC_143 L xs) = MC_144 L xs := rfl
set_option maxRecDepth 20000 in
theorem KC_144 (L : Nat) (xs : Nat → Int32) : (MC_144 L xs).1 = (g_K0 L).take 61 := (nw_K _ (MC_143 L xs)).trans (by rw [KC_143]; rfl)
set_option maxRecDepth 20000 in
theorem LN_144 (L : Nat) (xs : Nat → Int32) : (MC_144 L xs).1.length = 61 := by rw [KC_144]; rfl
def RC_144 : Nat → Nat → Option Nat := g_row RC_143 60 (fun _ => none)
theorem RR_144 (L : Nat) (xs : Nat → Int32) : (MC_144 L xs).2.2.2 = RC_144 := nw_R (LN_143 L xs) (RR_143 L xs)
def IC_144 : Nat → Nat → Int32 := g_row IC_142 60 (fun _ => 0)
theorem II_144 (L : Nat) (xs : Nat → Int32) : ∀ i, i ≠ 0 → (MC_144 L xs).2.1 i = IC_144 i := nw_I (LN_143 L xs) (II_143 L xs)
theorem LL_144 (L : Nat) (xs : Nat → Int32) : ∀ i k, (MC_144 L xs).2.2.1 i k = 0 := nw_L (LL_143 L xs)
def MC_145 (L : Nat) (xs : Nat → Int32) : gM := mR (MC_144 L xs) 56 3 (some 60)
set_option maxRecDepth 20000 in
theorem ST_145 (L : Nat) (xs : Nat → Int32) : pR 8 (MC_144 L xs) (some 56) 3 (some 60) = some (MC_145 L xs) := pR_of (by unfold g_k; rw [KC_144]; rfl)
theorem KC_145 (L : Nat) (xs : Nat → Int32) : (MC_145 L xs).1 = (g_K0 L).take 61 := (mR_K (MC_144 L xs) _ _ _).trans (KC_144 L xs)
set_option maxRecDepth 20000 in
theorem LN_145 (L : Nat) (xs : Nat → Int32) : (MC_145 L xs).1.length = 61 := by rw [KC_145]; rfl
def RC_145 : Nat → Nat → Option Nat := g_up RC_144 56 3 (some 60)
theorem RR_145 (L : Nat) (xs : Nat → Int32) : (MC_145 L xs).2.2.2 = RC_145 := mR_Rr (RR_144 L xs)
theorem II_145 (L : Nat) (xs : Nat → Int32) : ∀ i, i ≠ 0 → (MC_145 L xs).2.1 i = IC_144 i := mR_In (II_144 L xs)
theorem LL_145 (L : Nat) (xs : Nat → Int32) : ∀ i k, (MC_145 L xs).2.2.1 i k = 0 := mR_Ln (LL_144 L xs)
def MC_146 (L : Nat) (xs : Nat → Int32) : gM := mI (MC_145 L xs) 56 4 (0 : Int32)
set_option maxRecDepth 20000 in
theorem ST_146 (L : Nat) (xs : Nat → Int32) : pI 8 (MC_145 L xs) (some 56) 4 (0 : Int32) = some (MC_146 L xs) := pI_of (by unfold g_k; rw [KC_145]; rfl)
theorem KC_146 (L : Nat) (xs : Nat → Int32) : (MC_146 L xs).1 = (g_K0 L).take 61 := (mI_K (MC_145 L xs) _ _ _).trans (KC_145 L xs)
set_option maxRecDepth 20000 in
theorem LN_146 (L : Nat) (xs : Nat → Int32) : (MC_146 L xs).1.length = 61 := by rw [KC_146]; rfl
theorem RR_146 (L : Nat) (xs : Nat → Int32) : (MC_146 L xs).2.2.2 = RC_145 := (mI_Rn (MC_145 L xs) _ _ _).trans (RR_145 L xs)
def IC_146 : Nat → Nat → Int32 := g_up IC_144 56 4 (0)
theorem II_146 (L : Nat) (xs : Nat → Int32) : ∀ i, i ≠ 0 → (MC_146 L xs).2.1 i = IC_146 i := mI_I (II_145 L xs)
theorem LL_146 (L : Nat) (xs : Nat → Int32) : ∀ i k, (MC_146 L xs).2.2.1 i k = 0 := mI_Ln (LL_145 L xs)
def MC_147 (L : Nat) (xs : Nat → Int32) : gM := mI (MC_146 L xs) 56 5 (0 : Int32)
set_option maxRecDepth 20000 in
theorem ST_147 (L : Nat) (xs : Nat → Int32) : pI 8 (MC_146 L xs) (some 56) 5 (0 : Int32) = some (MC_147 L xs) := pI_of (by unfold g_k; rw [KC_146]; rfl)
theorem KC_147 (L : Nat) (xs : Nat → Int32) : (MC_147 L xs).1 = (g_K0 L).take 61 := (mI_K (MC_146 L xs) _ _ _).trans (KC_146 L xs)
set_option maxRecDepth 20000 in
theorem LN_147 (L : Nat) (xs : Nat → Int32) : (MC_147 L xs).1.length = 61 := by rw [KC_147]; rfl
theorem RR_147 (L : Nat) (xs : Nat → Int32) : (MC_147 L xs).2.2.2 = RC_145 := (mI_Rn (MC_146 L xs) _ _ _).trans (RR_146 L xs)
def IC_147 : Nat → Nat → Int32 := g_up IC_146 56 5 (0)
theorem II_147 (L : Nat) (xs : Nat → Int32) : ∀ i, i ≠ 0 → (MC_147 L xs).2.1 i = IC_147 i := mI_I (II_146 L xs)
theorem LL_147 (L : Nat) (xs : Nat → Int32) : ∀ i k, (MC_147 L xs).2.2.1 i k = 0 := mI_Ln (LL_146 L xs)
def MC_148 (L : Nat) (xs : Nat → Int32) : gM := mI (MC_147 L xs) 56 6 (0 : Int32)
set_option maxRecDepth 20000 in
theorem ST_148 (L : Nat) (xs : Nat → Int32) : pI 8 (MC_147 L xs) (some 56) 6 (0 : Int32) = some (MC_148 L xs) := pI_of (by unfold g_k; rw [KC_147]; rfl)
theorem KC_148 (L : Nat) (xs : Nat → Int32) : (MC_148 L xs).1 = (g_K0 L).take 61 := (mI_K (MC_147 L xs) _ _ _).trans (KC_147 L xs)
set_option maxRecDepth 20000 in
theorem LN_148 (L : Nat) (xs : Nat → Int32) : (MC_148 L xs).1.length = 61 := by rw [KC_148]; rfl
theorem RR_148 (L : Nat) (xs : Nat → Int32) : (MC_148 L xs).2.2.2 = RC_145 := (mI_Rn (MC_147 L xs) _ _ _).trans (RR_147 L xs)
def IC_148 : Nat → Nat → Int32 := g_up IC_147 56 6 (0)
theorem II_148 (L : Nat) (xs : Nat → Int32) : ∀ i, i ≠ 0 → (MC_148 L xs).2.1 i = IC_148 i := mI_I (II_147 L xs)
theorem LL_148 (L : Nat) (xs : Nat → Int32) : ∀ i k, (MC_148 L xs).2.2.1 i k = 0 := mI_Ln (LL_147 L xs)
def MC_149 (L : Nat) (xs : Nat → Int32) : gM := mR (MC_148 L xs) 20 7 (some 56)
set_option maxRecDepth 20000 in
theorem ST_149 (L : Nat) (xs : Nat → Int32) : sR 24 (MC_148 L xs) (some 20) (7 : Int32) (some 56) = some (MC_149 L xs) := sR_of (n := 20) (by unfold g_k; rw [KC_148]; rfl) (by unfold g_k; rw [KC_148]; rfl) (by decide) (by decide)
theorem KC_149 (L : Nat) (xs : Nat → Int32) : (MC_149 L xs).1 = (g_K0 L).take 61 := (mR_K (MC_148 L xs) _ _ _).trans (KC_148 L xs)
set_option maxRecDepth 20000 in
theorem LN_149 (L : Nat) (xs : Nat → Int32) : (MC_149 L xs).1.length = 61 := by rw [KC_149]; rfl
def RC_149 : Nat → Nat → Option Nat := g_up RC_145 20 7 (some 56)
theorem RR_149 (L : Nat) (xs : Nat → Int32) : (MC_149 L xs).2.2.2 = RC_149 := mR_Rr (RR_148 L xs)
theorem II_149 (L : Nat) (xs : Nat → Int32) : ∀ i, i ≠ 0 → (MC_149 L xs).2.1 i = IC_148 i := mR_In (II_148 L xs)
theorem LL_149 (L : Nat) (xs : Nat → Int32) : ∀ i k, (MC_149 L xs).2.2.1 i k = 0 := mR_Ln (LL_148 L xs)
set_option maxRecDepth 20000 in
theorem GR_9 (L : Nat) (xs : Nat → Int32) : gR 4 (MC_149 L xs) (some 19) 0 = some (some 20) := gR_of (by unfold g_k; rw [KC_149]; rfl) (by rw [RR_149]; decide +kernel)
def MC_150 (L : Nat) (xs : Nat → Int32) : gM := nw (8, 0) (MC_149 L xs)
theorem NW_150 (L : Nat) (xs : Nat → Int32) : nw (8, 0) (MC_149 L xs) = MC_150 L xs := rfl
set_option maxRecDepth 20000 in
theorem KC_150 (L : Nat) (xs : Nat → Int32) : (MC_150 L xs).1 = (g_K0 L).take 62 := (nw_K _ (MC_149 L xs)).trans (by rw [KC_149]; rfl)
set_option maxRecDepth 20000 in
theorem LN_150 (L : Nat) (xs : Nat → Int32) : (MC_150 L xs).1.length = 62 := by rw [KC_150]; rfl
def RC_150 : Nat → Nat → Option Nat := g_row RC_149 61 (fun _ => none)
theorem RR_150 (L : Nat) (xs : Nat → Int32) : (MC_150 L xs).2.2.2 = RC_150 := nw_R (LN_149 L xs) (RR_149 L xs)
def IC_150 : Nat → Nat → Int32 := g_row IC_148 61 (fun _ => 0)
theorem II_150 (L : Nat) (xs : Nat → Int32) : ∀ i, i ≠ 0 → (MC_150 L xs).2.1 i = IC_150 i := nw_I (LN_149 L xs) (II_149 L xs)
theorem LL_150 (L : Nat) (xs : Nat → Int32) : ∀ i k, (MC_150 L xs).2.2.1 i k = 0 := nw_L (LL_149 L xs)
def MC_151 (L : Nat) (xs : Nat → Int32) : gM := nw (20, 49) (MC_150 L xs)
theorem NW_151 (L : Nat) (xs : Nat → Int32) : nw (20, 49) (MC_150 L xs) = MC_151 L xs := rfl
set_option maxRecDepth 20000 in
theorem KC_151 (L : Nat) (xs : Nat → Int32) : (MC_151 L xs).1 = (g_K0 L).take 63 := (nw_K _ (MC_150 L xs)).trans (by rw [KC_150]; rfl)
set_option maxRecDepth 20000 in
theorem LN_151 (L : Nat) (xs : Nat → Int32) : (MC_151 L xs).1.length = 63 := by rw [KC_151]; rfl
def RC_151 : Nat → Nat → Option Nat := g_row RC_150 62 (fun _ => none)
theorem RR_151 (L : Nat) (xs : Nat → Int32) : (MC_151 L xs).2.2.2 = RC_151 := nw_R (LN_150 L xs) (RR_150 L xs)
def IC_151 : Nat → Nat → Int32 := g_row IC_150 62 (fun _ => 0)
theorem II_151 (L : Nat) (xs : Nat → Int32) : ∀ i, i ≠ 0 → (MC_151 L xs).2.1 i = IC_151 i := nw_I (LN_150 L xs) (II_150 L xs)
theorem LL_151 (L : Nat) (xs : Nat → Int32) : ∀ i k, (MC_151 L xs).2.2.1 i k = 0 := nw_L (LL_150 L xs)
def MC_152 (L : Nat) (xs : Nat → Int32) : gM := mR (MC_151 L xs) 61 0 (some 62)
set_option maxRecDepth 20000 in
theorem ST_152 (L : Nat) (xs : Nat → Int32) : pR 8 (MC_151 L xs) (some 61) 0 (some 62) = some (MC_152 L xs) := pR_of (by unfold g_k; rw [KC_151]; rfl)
theorem KC_152 (L : Nat) (xs : Nat → Int32) : (MC_152 L xs).1 = (g_K0 L).take 63 := (mR_K (MC_151 L xs) _ _ _).trans (KC_151 L xs)
set_option maxRecDepth 20000 in
theorem LN_152 (L : Nat) (xs : Nat → Int32) : (MC_152 L xs).1.length = 63 := by rw [KC_152]; rfl
def RC_152 : Nat → Nat → Option Nat := g_up RC_151 61 0 (some 62)
theorem RR_152 (L : Nat) (xs : Nat → Int32) : (MC_152 L xs).2.2.2 = RC_152 := mR_Rr (RR_151 L xs)
theorem II_152 (L : Nat) (xs : Nat → Int32) : ∀ i, i ≠ 0 → (MC_152 L xs).2.1 i = IC_151 i := mR_In (II_151 L xs)
theorem LL_152 (L : Nat) (xs : Nat → Int32) : ∀ i k, (MC_152 L xs).2.2.1 i k = 0 := mR_Ln (LL_151 L xs)
def MC_153 (L : Nat) (xs : Nat → Int32) : gM := nw (20, 49) (MC_152 L xs)
theorem NW_153 (L : Nat) (xs : Nat → Int32) : nw (20, 49) (MC_152 L xs) = MC_153 L xs := rfl
set_option maxRecDepth 20000 in
theorem KC_153 (L : Nat) (xs : Nat → Int32) : (MC_153 L xs).1 = (g_K0 L).take 64 := (nw_K _ (MC_152 L xs)).trans (by rw [KC_152]; rfl)
set_option maxRecDepth 20000 in
theorem LN_153 (L : Nat) (xs : Nat → Int32) : (MC_153 L xs).1.length = 64 := by rw [KC_153]; rfl
def RC_153 : Nat → Nat → Option Nat := g_row RC_152 63 (fun _ => none)
theorem RR_153 (L : Nat) (xs : Nat → Int32) : (MC_153 L xs).2.2.2 = RC_153 := nw_R (LN_152 L xs) (RR_152 L xs)
def IC_153 : Nat → Nat → Int32 := g_row IC_151 63 (fun _ => 0)
theorem II_153 (L : Nat) (xs : Nat → Int32) : ∀ i, i ≠ 0 → (MC_153 L xs).2.1 i = IC_153 i := nw_I (LN_152 L xs) (II_152 L xs)
theorem LL_153 (L : Nat) (xs : Nat → Int32) : ∀ i k, (MC_153 L xs).2.2.1 i k = 0 := nw_L (LL_152 L xs)
def MC_154 (L : Nat) (xs : Nat → Int32) : gM := mR (MC_153 L xs) 61 1 (some 63)
set_option maxRecDepth 20000 in
theorem ST_154 (L : Nat) (xs : Nat → Int32) : pR 8 (MC_153 L xs) (some 61) 1 (some 63) = some (MC_154 L xs) := pR_of (by unfold g_k; rw [KC_153]; rfl)
theorem KC_154 (L : Nat) (xs : Nat → Int32) : (MC_154 L xs).1 = (g_K0 L).take 64 := (mR_K (MC_153 L xs) _ _ _).trans (KC_153 L xs)
set_option maxRecDepth 20000 in
theorem LN_154 (L : Nat) (xs : Nat → Int32) : (MC_154 L xs).1.length = 64 := by rw [KC_154]; rfl
def RC_154 : Nat → Nat → Option Nat := g_up RC_153 61 1 (some 63)
theorem RR_154 (L : Nat) (xs : Nat → Int32) : (MC_154 L xs).2.2.2 = RC_154 := mR_Rr (RR_153 L xs)
theorem II_154 (L : Nat) (xs : Nat → Int32) : ∀ i, i ≠ 0 → (MC_154 L xs).2.1 i = IC_153 i := mR_In (II_153 L xs)
theorem LL_154 (L : Nat) (xs : Nat → Int32) : ∀ i k, (MC_154 L xs).2.2.1 i k = 0 := mR_Ln (LL_153 L xs)
def MC_155 (L : Nat) (xs : Nat → Int32) : gM := nw (20, 7) (MC_154 L xs)
theorem NW_155 (L : Nat) (xs : Nat → Int32) : nw (20, 7) (MC_154 L xs) = MC_155 L xs := rfl
set_option maxRecDepth 20000 in
theorem KC_155 (L : Nat) (xs : Nat → Int32) : (MC_155 L xs).1 = (g_K0 L).take 65 := (nw_K _ (MC_154 L xs)).trans (by rw [KC_154]; rfl)
set_option maxRecDepth 20000 in
theorem LN_155 (L : Nat) (xs : Nat → Int32) : (MC_155 L xs).1.length = 65 := by rw [KC_155]; rfl
def RC_155 : Nat → Nat → Option Nat := g_row RC_154 64 (fun _ => none)
theorem RR_155 (L : Nat) (xs : Nat → Int32) : (MC_155 L xs).2.2.2 = RC_155 := nw_R (LN_154 L xs) (RR_154 L xs)
def IC_155 : Nat → Nat → Int32 := g_row IC_153 64 (fun _ => 0)
theorem II_155 (L : Nat) (xs : Nat → Int32) : ∀ i, i ≠ 0 → (MC_155 L xs).2.1 i = IC_155 i := nw_I (LN_154 L xs) (II_154 L xs)
theorem LL_155 (L : Nat) (xs : Nat → Int32) : ∀ i k, (MC_155 L xs).2.2.1 i k = 0 := nw_L (LL_154 L xs)
def MC_156 (L : Nat) (xs : Nat → Int32) : gM := mR (MC_155 L xs) 61 2 (some 64)
set_option maxRecDepth 20000 in
theorem ST_156 (L : Nat) (xs : Nat → Int32) : pR 8 (MC_155 L xs) (some 61) 2 (some 64) = some (MC_156 L xs) := pR_of (by unfold g_k; rw [KC_155]; rfl)
theorem KC_156 (L : Nat) (xs : Nat → Int32) : (MC_156 L xs).1 = (g_K0 L).take 65 := (mR_K (MC_155 L xs) _ _ _).trans (KC_155 L xs)
set_option maxRecDepth 20000 in
theorem LN_156 (L : Nat) (xs : Nat → Int32) : (MC_156 L xs).1.length = 65 := by rw [KC_156]; rfl
def RC_156 : Nat → Nat → Option Nat := g_up RC_155 61 2 (some 64)
theorem RR_156 (L : Nat) (xs : Nat → Int32) : (MC_156 L xs).2.2.2 = RC_156 := mR_Rr (RR_155 L xs)
theorem II_156 (L : Nat) (xs : Nat → Int32) : ∀ i, i ≠ 0 → (MC_156 L xs).2.1 i = IC_155 i := mR_In (II_155 L xs)
theorem LL_156 (L : Nat) (xs : Nat → Int32) : ∀ i k, (MC_156 L xs).2.2.1 i k = 0 := mR_Ln (LL_155 L xs)
def MC_157 (L : Nat) (xs : Nat → Int32) : gM := nw (20, 7) (MC_156 L xs)
theorem NW_157 (L : Nat) (xs : Nat → Int32) : nw (20, 7) (MC_156 L xs) = MC_157 L xs := rfl
set_option maxRecDepth 20000 in
theorem KC_157 (L : Nat) (xs : Nat → Int32) : (MC_157 L xs).1 = (g_K0 L).take 66 := (nw_K _ (MC_156 L xs)).trans (by rw [KC_156]; rfl)
set_option maxRecDepth 20000 in
theorem LN_157 (L : Nat) (xs : Nat → Int32) : (MC_157 L xs).1.length = 66 := by rw [KC_157]; rfl
def RC_157 : Nat → Nat → Option Nat := g_row RC_156 65 (fun _ => none)
theorem RR_157 (L : Nat) (xs : Nat → Int32) : (MC_157 L xs).2.2.2 = RC_157 := nw_R (LN_156 L xs) (RR_156 L xs)
def IC_157 : Nat → Nat → Int32 := g_row IC_155 65 (fun _ => 0)
theorem II_157 (L : Nat) (xs : Nat → Int32) : ∀ i, i ≠ 0 → (MC_157 L xs).2.1 i = IC_157 i := nw_I (LN_156 L xs) (II_156 L xs)
theorem LL_157 (L : Nat) (xs : Nat → Int32) : ∀ i k, (MC_157 L xs).2.2.1 i k = 0 := nw_L (LL_156 L xs)
def MC_158 (L : Nat) (xs : Nat → Int32) : gM := mR (MC_157 L xs) 61 3 (some 65)
set_option maxRecDepth 20000 in
theorem ST_158 (L : Nat) (xs : Nat → Int32) : pR 8 (MC_157 L xs) (some 61) 3 (some 65) = some (MC_158 L xs) := pR_of (by unfold g_k; rw [KC_157]; rfl)
theorem KC_158 (L : Nat) (xs : Nat → Int32) : (MC_158 L xs).1 = (g_K0 L).take 66 := (mR_K (MC_157 L xs) _ _ _).trans (KC_157 L xs)
set_option maxRecDepth 20000 in
theorem LN_158 (L : Nat) (xs : Nat → Int32) : (MC_158 L xs).1.length = 66 := by rw [KC_158]; rfl
def RC_158 : Nat → Nat → Option Nat := g_up RC_157 61 3 (some 65)
theorem RR_158 (L : Nat) (xs : Nat → Int32) : (MC_158 L xs).2.2.2 = RC_158 := mR_Rr (RR_157 L xs)
theorem II_158 (L : Nat) (xs : Nat → Int32) : ∀ i, i ≠ 0 → (MC_158 L xs).2.1 i = IC_157 i := mR_In (II_157 L xs)
theorem LL_158 (L : Nat) (xs : Nat → Int32) : ∀ i k, (MC_158 L xs).2.2.1 i k = 0 := mR_Ln (LL_157 L xs)
def MC_159 (L : Nat) (xs : Nat → Int32) : gM := mI (MC_158 L xs) 61 4 (0 : Int32)
set_option maxRecDepth 20000 in
theorem ST_159 (L : Nat) (xs : Nat → Int32) : pI 8 (MC_158 L xs) (some 61) 4 (0 : Int32) = some (MC_159 L xs) := pI_of (by unfold g_k; rw [KC_158]; rfl)
theorem KC_159 (L : Nat) (xs : Nat → Int32) : (MC_159 L xs).1 = (g_K0 L).take 66 := (mI_K (MC_158 L xs) _ _ _).trans (KC_158 L xs)
set_option maxRecDepth 20000 in
theorem LN_159 (L : Nat) (xs : Nat → Int32) : (MC_159 L xs).1.length = 66 := by rw [KC_159]; rfl
theorem RR_159 (L : Nat) (xs : Nat → Int32) : (MC_159 L xs).2.2.2 = RC_158 := (mI_Rn (MC_158 L xs) _ _ _).trans (RR_158 L xs)
def IC_159 : Nat → Nat → Int32 := g_up IC_157 61 4 (0)
theorem II_159 (L : Nat) (xs : Nat → Int32) : ∀ i, i ≠ 0 → (MC_159 L xs).2.1 i = IC_159 i := mI_I (II_158 L xs)
theorem LL_159 (L : Nat) (xs : Nat → Int32) : ∀ i k, (MC_159 L xs).2.2.1 i k = 0 := mI_Ln (LL_158 L xs)
def MC_160 (L : Nat) (xs : Nat → Int32) : gM := mI (MC_159 L xs) 61 5 (0 : Int32)
set_option maxRecDepth 20000 in
theorem ST_160 (L : Nat) (xs : Nat → Int32) : pI 8 (MC_159 L xs) (some 61) 5 (0 : Int32) = some (MC_160 L xs) := pI_of (by unfold g_k; rw [KC_159]; rfl)
theorem KC_160 (L : Nat) (xs : Nat → Int32) : (MC_160 L xs).1 = (g_K0 L).take 66 := (mI_K (MC_159 L xs) _ _ _).trans (KC_159 L xs)
set_option maxRecDepth 20000 in
theorem LN_160 (L : Nat) (xs : Nat → Int32) : (MC_160 L xs).1.length = 66 := by rw [KC_160]; rfl
theorem RR_160 (L : Nat) (xs : Nat → Int32) : (MC_160 L xs).2.2.2 = RC_158 := (mI_Rn (MC_159 L xs) _ _ _).trans (RR_159 L xs)
def IC_160 : Nat → Nat → Int32 := g_up IC_159 61 5 (0)
theorem II_160 (L : Nat) (xs : Nat → Int32) : ∀ i, i ≠ 0 → (MC_160 L xs).2.1 i = IC_160 i := mI_I (II_159 L xs)
theorem LL_160 (L : Nat) (xs : Nat → Int32) : ∀ i k, (MC_160 L xs).2.2.1 i k = 0 := mI_Ln (LL_159 L xs)
def MC_161 (L : Nat) (xs : Nat → Int32) : gM := mI (MC_160 L xs) 61 6 (0 : Int32)
set_option maxRecDepth 20000 in
theorem ST_161 (L : Nat) (xs : Nat → Int32) : pI 8 (MC_160 L xs) (some 61) 6 (0 : Int32) = some (MC_161 L xs) := pI_of (by unfold g_k; rw [KC_160]; rfl)
theorem KC_161 (L : Nat) (xs : Nat → Int32) : (MC_161 L xs).1 = (g_K0 L).take 66 := (mI_K (MC_160 L xs) _ _ _).trans (KC_160 L xs)
set_option maxRecDepth 20000 in
theorem LN_161 (L : Nat) (xs : Nat → Int32) : (MC_161 L xs).1.length = 66 := by rw [KC_161]; rfl
theorem RR_161 (L : Nat) (xs : Nat → Int32) : (MC_161 L xs).2.2.2 = RC_158 := (mI_Rn (MC_160 L xs) _ _ _).trans (RR_160 L xs)
def IC_161 : Nat → Nat → Int32 := g_up IC_160 61 6 (0)
theorem II_161 (L : Nat) (xs : Nat → Int32) : ∀ i, i ≠ 0 → (MC_161 L xs).2.1 i = IC_161 i := mI_I (II_160 L xs)
theorem LL_161 (L : Nat) (xs : Nat → Int32) : ∀ i k, (MC_161 L xs).2.2.1 i k = 0 := mI_Ln (LL_160 L xs)
def MC_162 (L : Nat) (xs : Nat → Int32) : gM := mR (MC_161 L xs) 20 8 (some 61)
set_option maxRecDepth 20000 in
theorem ST_162 (L : Nat) (xs : Nat → Int32) : sR 24 (MC_161 L xs) (some 20) (8 : Int32) (some 61) = some (MC_162 L xs) := sR_of (n := 20) (by unfold g_k; rw [KC_161]; rfl) (by unfold g_k; rw [KC_161]; rfl) (by decide) (by decide)
theorem KC_162 (L : Nat) (xs : Nat → Int32) : (MC_162 L xs).1 = (g_K0 L).take 66 := (mR_K (MC_161 L xs) _ _ _).trans (KC_161 L xs)
set_option maxRecDepth 20000 in
theorem LN_162 (L : Nat) (xs : Nat → Int32) : (MC_162 L xs).1.length = 66 := by rw [KC_162]; rfl
def RC_162 : Nat → Nat → Option Nat := g_up RC_158 20 8 (some 61)
theorem RR_162 (L : Nat) (xs : Nat → Int32) : (MC_162 L xs).2.2.2 = RC_162 := mR_Rr (RR_161 L xs)
theorem II_162 (L : Nat) (xs : Nat → Int32) : ∀ i, i ≠ 0 → (MC_162 L xs).2.1 i = IC_161 i := mR_In (II_161 L xs)
theorem LL_162 (L : Nat) (xs : Nat → Int32) : ∀ i k, (MC_162 L xs).2.2.1 i k = 0 := mR_Ln (LL_161 L xs)
set_option maxRecDepth 20000 in
theorem GR_10 (L : Nat) (xs : Nat → Int32) : gR 4 (MC_162 L xs) (some 19) 0 = some (some 20) := gR_of (by unfold g_k; rw [KC_162]; rfl) (by rw [RR_162]; decide +kernel)
def MC_163 (L : Nat) (xs : Nat → Int32) : gM := nw (8, 0) (MC_162 L xs)
theorem NW_163 (L : Nat) (xs : Nat → Int32) : nw (8, 0) (MC_162 L xs) = MC_163 L xs := rfl
set_option maxRecDepth 20000 in
theorem KC_163 (L : Nat) (xs : Nat → Int32) : (MC_163 L xs).1 = (g_K0 L).take 67 := (nw_K _ (MC_162 L xs)).trans (by rw [KC_162]; rfl)
set_option maxRecDepth 20000 in
theorem LN_163 (L : Nat) (xs : Nat → Int32) : (MC_163 L xs).1.length = 67 := by rw [KC_163]; rfl
def RC_163 : Nat → Nat → Option Nat := g_row RC_162 66 (fun _ => none)
theorem RR_163 (L : Nat) (xs : Nat → Int32) : (MC_163 L xs).2.2.2 = RC_163 := nw_R (LN_162 L xs) (RR_162 L xs)
def IC_163 : Nat → Nat → Int32 := g_row IC_161 66 (fun _ => 0)
theorem II_163 (L : Nat) (xs : Nat → Int32) : ∀ i, i ≠ 0 → (MC_163 L xs).2.1 i = IC_163 i := nw_I (LN_162 L xs) (II_162 L xs)
theorem LL_163 (L : Nat) (xs : Nat → Int32) : ∀ i k, (MC_163 L xs).2.2.1 i k = 0 := nw_L (LL_162 L xs)
def MC_164 (L : Nat) (xs : Nat → Int32) : gM := nw (20, 49) (MC_163 L xs)
theorem NW_164 (L : Nat) (xs : Nat → Int32) : nw (20, 49) (MC_163 L xs) = MC_164 L xs := rfl
set_option maxRecDepth 20000 in
theorem KC_164 (L : Nat) (xs : Nat → Int32) : (MC_164 L xs).1 = (g_K0 L).take 68 := (nw_K _ (MC_163 L xs)).trans (by rw [KC_163]; rfl)
set_option maxRecDepth 20000 in
theorem LN_164 (L : Nat) (xs : Nat → Int32) : (MC_164 L xs).1.length = 68 := by rw [KC_164]; rfl
def RC_164 : Nat → Nat → Option Nat := g_row RC_163 67 (fun _ => none)
theorem RR_164 (L : Nat) (xs : Nat → Int32) : (MC_164 L xs).2.2.2 = RC_164 := nw_R (LN_163 L xs) (RR_163 L xs)
def IC_164 : Nat → Nat → Int32 := g_row IC_163 67 (fun _ => 0)
theorem II_164 (L : Nat) (xs : Nat → Int32) : ∀ i, i ≠ 0 → (MC_164 L xs).2.1 i = IC_164 i := nw_I (LN_163 L xs) (II_163 L xs)
theorem LL_164 (L : Nat) (xs : Nat → Int32) : ∀ i k, (MC_164 L xs).2.2.1 i k = 0 := nw_L (LL_163 L xs)
def MC_165 (L : Nat) (xs : Nat → Int32) : gM := mR (MC_164 L xs) 66 0 (some 67)
set_option maxRecDepth 20000 in
theorem ST_165 (L : Nat) (xs : Nat → Int32) : pR 8 (MC_164 L xs) (some 66) 0 (some 67) = some (MC_165 L xs) := pR_of (by unfold g_k; rw [KC_164]; rfl)
theorem KC_165 (L : Nat) (xs : Nat → Int32) : (MC_165 L xs).1 = (g_K0 L).take 68 := (mR_K (MC_164 L xs) _ _ _).trans (KC_164 L xs)
set_option maxRecDepth 20000 in
theorem LN_165 (L : Nat) (xs : Nat → Int32) : (MC_165 L xs).1.length = 68 := by rw [KC_165]; rfl
def RC_165 : Nat → Nat → Option Nat := g_up RC_164 66 0 (some 67)
theorem RR_165 (L : Nat) (xs : Nat → Int32) : (MC_165 L xs).2.2.2 = RC_165 := mR_Rr (RR_164 L xs)
theorem II_165 (L : Nat) (xs : Nat → Int32) : ∀ i, i ≠ 0 → (MC_165 L xs).2.1 i = IC_164 i := mR_In (II_164 L xs)
theorem LL_165 (L : Nat) (xs : Nat → Int32) : ∀ i k, (MC_165 L xs).2.2.1 i k = 0 := mR_Ln (LL_164 L xs)
def MC_166 (L : Nat) (xs : Nat → Int32) : gM := nw (20, 49) (MC_165 L xs)
theorem NW_166 (L : Nat) (xs : Nat → Int32) : nw (20, 49) (MC_165 L xs) = MC_166 L xs := rfl
set_option maxRecDepth 20000 in
theorem KC_166 (L : Nat) (xs : Nat → Int32) : (MC_166 L xs).1 = (g_K0 L).take 69 := (nw_K _ (MC_165 L xs)).trans (by rw [KC_165]; rfl)
set_option maxRecDepth 20000 in
theorem LN_166 (L : Nat) (xs : Nat → Int32) : (MC_166 L xs).1.length = 69 := by rw [KC_166]; rfl
def RC_166 : Nat → Nat → Option Nat := g_row RC_165 68 (fun _ => none)
theorem RR_166 (L : Nat) (xs : Nat → Int32) : (MC_166 L xs).2.2.2 = RC_166 := nw_R (LN_165 L xs) (RR_165 L xs)
def IC_166 : Nat → Nat → Int32 := g_row IC_164 68 (fun _ => 0)
theorem II_166 (L : Nat) (xs : Nat → Int32) : ∀ i, i ≠ 0 → (MC_166 L xs).2.1 i = IC_166 i := nw_I (LN_165 L xs) (II_165 L xs)
theorem LL_166 (L : Nat) (xs : Nat → Int32) : ∀ i k, (MC_166 L xs).2.2.1 i k = 0 := nw_L (LL_165 L xs)
def MC_167 (L : Nat) (xs : Nat → Int32) : gM := mR (MC_166 L xs) 66 1 (some 68)
set_option maxRecDepth 20000 in
theorem ST_167 (L : Nat) (xs : Nat → Int32) : pR 8 (MC_166 L xs) (some 66) 1 (some 68) = some (MC_167 L xs) := pR_of (by unfold g_k; rw [KC_166]; rfl)
theorem KC_167 (L : Nat) (xs : Nat → Int32) : (MC_167 L xs).1 = (g_K0 L).take 69 := (mR_K (MC_166 L xs) _ _ _).trans (KC_166 L xs)
set_option maxRecDepth 20000 in
theorem LN_167 (L : Nat) (xs : Nat → Int32) : (MC_167 L xs).1.length = 69 := by rw [KC_167]; rfl
def RC_167 : Nat → Nat → Option Nat := g_up RC_166 66 1 (some 68)
theorem RR_167 (L : Nat) (xs : Nat → Int32) : (MC_167 L xs).2.2.2 = RC_167 := mR_Rr (RR_166 L xs)
theorem II_167 (L : Nat) (xs : Nat → Int32) : ∀ i, i ≠ 0 → (MC_167 L xs).2.1 i = IC_166 i := mR_In (II_166 L xs)
theorem LL_167 (L : Nat) (xs : Nat → Int32) : ∀ i k, (MC_167 L xs).2.2.1 i k = 0 := mR_Ln (LL_166 L xs)
def MC_168 (L : Nat) (xs : Nat → Int32) : gM := nw (20, 7) (MC_167 L xs)
theorem NW_168 (L : Nat) (xs : Nat → Int32) : nw (20, 7) (MC_167 L xs) = MC_168 L xs := rfl
set_option maxRecDepth 20000 in
theorem KC_168 (L : Nat) (xs : Nat → Int32) : (MC_168 L xs).1 = (g_K0 L).take 70 := (nw_K _ (MC_167 L xs)).trans (by rw [KC_167]; rfl)
set_option maxRecDepth 20000 in
theorem LN_168 (L : Nat) (xs : Nat → Int32) : (MC_168 L xs).1.length = 70 := by rw [KC_168]; rfl
def RC_168 : Nat → Nat → Option Nat := g_row RC_167 69 (fun _ => none)
theorem RR_168 (L : Nat) (xs : Nat → Int32) : (MC_168 L xs).2.2.2 = RC_168 := nw_R (LN_167 L xs) (RR_167 L xs)
def IC_168 : Nat → Nat → Int32 := g_row IC_166 69 (fun _ => 0)
theorem II_168 (L : Nat) (xs : Nat → Int32) : ∀ i, i ≠ 0 → (MC_168 L xs).2.1 i = IC_168 i := nw_I (LN_167 L xs) (II_167 L xs)
theorem LL_168 (L : Nat) (xs : Nat → Int32) : ∀ i k, (MC_168 L xs).2.2.1 i k = 0 := nw_L (LL_167 L xs)
def MC_169 (L : Nat) (xs : Nat → Int32) : gM := mR (MC_168 L xs) 66 2 (some 69)
set_option maxRecDepth 20000 in
theorem ST_169 (L : Nat) (xs : Nat → Int32) : pR 8 (MC_168 L xs) (some 66) 2 (some 69) = some (MC_169 L xs) := pR_of (by unfold g_k; rw [KC_168]; rfl)
theorem KC_169 (L : Nat) (xs : Nat → Int32) : (MC_169 L xs).1 = (g_K0 L).take 70 := (mR_K (MC_168 L xs) _ _ _).trans (KC_168 L xs)
set_option maxRecDepth 20000 in
theorem LN_169 (L : Nat) (xs : Nat → Int32) : (MC_169 L xs).1.length = 70 := by rw [KC_169]; rfl
def RC_169 : Nat → Nat → Option Nat := g_up RC_168 66 2 (some 69)
theorem RR_169 (L : Nat) (xs : Nat → Int32) : (MC_169 L xs).2.2.2 = RC_169 := mR_Rr (RR_168 L xs)
theorem II_169 (L : Nat) (xs : Nat → Int32) : ∀ i, i ≠ 0 → (MC_169 L xs).2.1 i = IC_168 i := mR_In (II_168 L xs)
theorem LL_169 (L : Nat) (xs : Nat → Int32) : ∀ i k, (MC_169 L xs).2.2.1 i k = 0 := mR_Ln (LL_168 L xs)
def MC_170 (L : Nat) (xs : Nat → Int32) : gM := nw (20, 7) (MC_169 L xs)
theorem NW_170 (L : Nat) (xs : Nat → Int32) : nw (20, 7) (MC_169 L xs) = MC_170 L xs := rfl
set_option maxRecDepth 20000 in
theorem KC_170 (L : Nat) (xs : Nat → Int32) : (MC_170 L xs).1 = (g_K0 L).take 71 := (nw_K _ (MC_169 L xs)).trans (by rw [KC_169]; rfl)
set_option maxRecDepth 20000 in
theorem LN_170 (L : Nat) (xs : Nat → Int32) : (MC_170 L xs).1.length = 71 := by rw [KC_170]; rfl
def RC_170 : Nat → Nat → Option Nat := g_row RC_169 70 (fun _ => none)
theorem RR_170 (L : Nat) (xs : Nat → Int32) : (MC_170 L xs).2.2.2 = RC_170 := nw_R (LN_169 L xs) (RR_169 L xs)
def IC_170 : Nat → Nat → Int32 := g_row IC_168 70 (fun _ => 0)
theorem II_170 (L : Nat) (xs : Nat → Int32) : ∀ i, i ≠ 0 → (MC_170 L xs).2.1 i = IC_170 i := nw_I (LN_169 L xs) (II_169 L xs)
theorem LL_170 (L : Nat) (xs : Nat → Int32) : ∀ i k, (MC_170 L xs).2.2.1 i k = 0 := nw_L (LL_169 L xs)
def MC_171 (L : Nat) (xs : Nat → Int32) : gM := mR (MC_170 L xs) 66 3 (some 70)
set_option maxRecDepth 20000 in
theorem ST_171 (L : Nat) (xs : Nat → Int32) : pR 8 (MC_170 L xs) (some 66) 3 (some 70) = some (MC_171 L xs) := pR_of (by unfold g_k; rw [KC_170]; rfl)
theorem KC_171 (L : Nat) (xs : Nat → Int32) : (MC_171 L xs).1 = (g_K0 L).take 71 := (mR_K (MC_170 L xs) _ _ _).trans (KC_170 L xs)
set_option maxRecDepth 20000 in
theorem LN_171 (L : Nat) (xs : Nat → Int32) : (MC_171 L xs).1.length = 71 := by rw [KC_171]; rfl
def RC_171 : Nat → Nat → Option Nat := g_up RC_170 66 3 (some 70)
theorem RR_171 (L : Nat) (xs : Nat → Int32) : (MC_171 L xs).2.2.2 = RC_171 := mR_Rr (RR_170 L xs)
theorem II_171 (L : Nat) (xs : Nat → Int32) : ∀ i, i ≠ 0 → (MC_171 L xs).2.1 i = IC_170 i := mR_In (II_170 L xs)
theorem LL_171 (L : Nat) (xs : Nat → Int32) : ∀ i k, (MC_171 L xs).2.2.1 i k = 0 := mR_Ln (LL_170 L xs)
def MC_172 (L : Nat) (xs : Nat → Int32) : gM := mI (MC_171 L xs) 66 4 (0 : Int32)
set_option maxRecDepth 20000 in
theorem ST_172 (L : Nat) (xs : Nat → Int32) : pI 8 (MC_171 L xs) (some 66) 4 (0 : Int32) = some (MC_172 L xs) := pI_of (by unfold g_k; rw [KC_171]; rfl)
theorem KC_172 (L : Nat) (xs : Nat → Int32) : (MC_172 L xs).1 = (g_K0 L).take 71 := (mI_K (MC_171 L xs) _ _ _).trans (KC_171 L xs)
set_option maxRecDepth 20000 in
theorem LN_172 (L : Nat) (xs : Nat → Int32) : (MC_172 L xs).1.length = 71 := by rw [KC_172]; rfl
theorem RR_172 (L : Nat) (xs : Nat → Int32) : (MC_172 L xs).2.2.2 = RC_171 := (mI_Rn (MC_171 L xs) _ _ _).trans (RR_171 L xs)
def IC_172 : Nat → Nat → Int32 := g_up IC_170 66 4 (0)
theorem II_172 (L : Nat) (xs : Nat → Int32) : ∀ i, i ≠ 0 → (MC_172 L xs).2.1 i = IC_172 i := mI_I (II_171 L xs)
theorem LL_172 (L : Nat) (xs : Nat → Int32) : ∀ i k, (MC_172 L xs).2.2.1 i k = 0 := mI_Ln (LL_171 L xs)
def MC_173 (L : Nat) (xs : Nat → Int32) : gM := mI (MC_172 L xs) 66 5 (0 : Int32)
set_option maxRecDepth 20000 in
theorem ST_173 (L : Nat) (xs : Nat → Int32) : pI 8 (MC_172 L xs) (some 66) 5 (0 : Int32) = some (MC_173 L xs) := pI_of (by unfold g_k; rw [KC_172]; rfl)
theorem KC_173 (L : Nat) (xs : Nat → Int32) : (MC_173 L xs).1 = (g_K0 L).take 71 := (mI_K (MC_172 L xs) _ _ _).trans (KC_172 L xs)
set_option maxRecDepth 20000 in
theorem LN_173 (L : Nat) (xs : Nat → Int32) : (MC_173 L xs).1.length = 71 := by rw [KC_173]; rfl
theorem RR_173 (L : Nat) (xs : Nat → Int32) : (MC_173 L xs).2.2.2 = RC_171 := (mI_Rn (MC_172 L xs) _ _ _).trans (RR_172 L xs)
def IC_173 : Nat → Nat → Int32 := g_up IC_172 66 5 (0)
theorem II_173 (L : Nat) (xs : Nat → Int32) : ∀ i, i ≠ 0 → (MC_173 L xs).2.1 i = IC_173 i := mI_I (II_172 L xs)
theorem LL_173 (L : Nat) (xs : Nat → Int32) : ∀ i k, (MC_173 L xs).2.2.1 i k = 0 := mI_Ln (LL_172 L xs)
def MC_174 (L : Nat) (xs : Nat → Int32) : gM := mI (MC_173 L xs) 66 6 (0 : Int32)
set_option maxRecDepth 20000 in
theorem ST_174 (L : Nat) (xs : Nat → Int32) : pI 8 (MC_173 L xs) (some 66) 6 (0 : Int32) = some (MC_174 L xs) := pI_of (by unfold g_k; rw [KC_173]; rfl)
theorem KC_174 (L : Nat) (xs : Nat → Int32) : (MC_174 L xs).1 = (g_K0 L).take 71 := (mI_K (MC_173 L xs) _ _ _).trans (KC_173 L xs)
set_option maxRecDepth 20000 in
theorem LN_174 (L : Nat) (xs : Nat → Int32) : (MC_174 L xs).1.length = 71 := by rw [KC_174]; rfl
theorem RR_174 (L : Nat) (xs : Nat → Int32) : (MC_174 L xs).2.2.2 = RC_171 := (mI_Rn (MC_173 L xs) _ _ _).trans (RR_173 L xs)
def IC_174 : Nat → Nat → Int32 := g_up IC_173 66 6 (0)
theorem II_174 (L : Nat) (xs : Nat → Int32) : ∀ i, i ≠ 0 → (MC_174 L xs).2.1 i = IC_174 i := mI_I (II_173 L xs)
theorem LL_174 (L : Nat) (xs : Nat → Int32) : ∀ i k, (MC_174 L xs).2.2.1 i k = 0 := mI_Ln (LL_173 L xs)
def MC_175 (L : Nat) (xs : Nat → Int32) : gM := mR (MC_174 L xs) 20 9 (some 66)
set_option maxRecDepth 20000 in
theorem ST_175 (L : Nat) (xs : Nat → Int32) : sR 24 (MC_174 L xs) (some 20) (9 : Int32) (some 66) = some (MC_175 L xs) := sR_of (n := 20) (by unfold g_k; rw [KC_174]; rfl) (by unfold g_k; rw [KC_174]; rfl) (by decide) (by decide)
theorem KC_175 (L : Nat) (xs : Nat → Int32) : (MC_175 L xs).1 = (g_K0 L).take 71 := (mR_K (MC_174 L xs) _ _ _).trans (KC_174 L xs)
set_option maxRecDepth 20000 in
theorem LN_175 (L : Nat) (xs : Nat → Int32) : (MC_175 L xs).1.length = 71 := by rw [KC_175]; rfl
def RC_175 : Nat → Nat → Option Nat := g_up RC_171 20 9 (some 66)
theorem RR_175 (L : Nat) (xs : Nat → Int32) : (MC_175 L xs).2.2.2 = RC_175 := mR_Rr (RR_174 L xs)
theorem II_175 (L : Nat) (xs : Nat → Int32) : ∀ i, i ≠ 0 → (MC_175 L xs).2.1 i = IC_174 i := mR_In (II_174 L xs)
theorem LL_175 (L : Nat) (xs : Nat → Int32) : ∀ i k, (MC_175 L xs).2.2.1 i k = 0 := mR_Ln (LL_174 L xs)
set_option maxRecDepth 20000 in
theorem GR_11 (L : Nat) (xs : Nat → Int32) : gR 4 (MC_175 L xs) (some 19) 0 = some (some 20) := gR_of (by unfold g_k; rw [KC_175]; rfl) (by rw [RR_175]; decide +kernel)
def MC_176 (L : Nat) (xs : Nat → Int32) : gM := nw (8, 0) (MC_175 L xs)
theorem NW_176 (L : Nat) (xs : Nat → Int32) : nw (8, 0) (MC_175 L xs) = MC_176 L xs := rfl
set_option maxRecDepth 20000 in
theorem KC_176 (L : Nat) (xs : Nat → Int32) : (MC_176 L xs).1 = (g_K0 L).take 72 := (nw_K _ (MC_175 L xs)).trans (by rw [KC_175]; rfl)
set_option maxRecDepth 20000 in
theorem LN_176 (L : Nat) (xs : Nat → Int32) : (MC_176 L xs).1.length = 72 := by rw [KC_176]; rfl
def RC_176 : Nat → Nat → Option Nat := g_row RC_175 71 (fun _ => none)
theorem RR_176 (L : Nat) (xs : Nat → Int32) : (MC_176 L xs).2.2.2 = RC_176 := nw_R (LN_175 L xs) (RR_175 L xs)
def IC_176 : Nat → Nat → Int32 := g_row IC_174 71 (fun _ => 0)
theorem II_176 (L : Nat) (xs : Nat → Int32) : ∀ i, i ≠ 0 → (MC_176 L xs).2.1 i = IC_176 i := nw_I (LN_175 L xs) (II_175 L xs)
theorem LL_176 (L : Nat) (xs : Nat → Int32) : ∀ i k, (MC_176 L xs).2.2.1 i k = 0 := nw_L (LL_175 L xs)
def MC_177 (L : Nat) (xs : Nat → Int32) : gM := nw (20, 49) (MC_176 L xs)
theorem NW_177 (L : Nat) (xs : Nat → Int32) : nw (20, 49) (MC_176 L xs) = MC_177 L xs := rfl
set_option maxRecDepth 20000 in
theorem KC_177 (L : Nat) (xs : Nat → Int32) : (MC_177 L xs).1 = (g_K0 L).take 73 := (nw_K _ (MC_176 L xs)).trans (by rw [KC_176]; rfl)
set_option maxRecDepth 20000 in
theorem LN_177 (L : Nat) (xs : Nat → Int32) : (MC_177 L xs).1.length = 73 := by rw [KC_177]; rfl
def RC_177 : Nat → Nat → Option Nat := g_row RC_176 72 (fun _ => none)
theorem RR_177 (L : Nat) (xs : Nat → Int32) : (MC_177 L xs).2.2.2 = RC_177 := nw_R (LN_176 L xs) (RR_176 L xs)
def IC_177 : Nat → Nat → Int32 := g_row IC_176 72 (fun _ => 0)
theorem II_177 (L : Nat) (xs : Nat → Int32) : ∀ i, i ≠ 0 → (MC_177 L xs).2.1 i = IC_177 i := nw_I (LN_176 L xs) (II_176 L xs)
theorem LL_177 (L : Nat) (xs : Nat → Int32) : ∀ i k, (MC_177 L xs).2.2.1 i k = 0 := nw_L (LL_176 L xs)
def MC_178 (L : Nat) (xs : Nat → Int32) : gM := mR (MC_177 L xs) 71 0 (some 72)
set_option maxRecDepth 20000 in
theorem ST_178 (L : Nat) (xs : Nat → Int32) : pR 8 (MC_177 L xs) (some 71) 0 (some 72) = some (MC_178 L xs) := pR_of (by unfold g_k; rw [KC_177]; rfl)
theorem KC_178 (L : Nat) (xs : Nat → Int32) : (MC_178 L xs).1 = (g_K0 L).take 73 := (mR_K (MC_177 L xs) _ _ _).trans (KC_177 L xs)
set_option maxRecDepth 20000 in
theorem LN_178 (L : Nat) (xs : Nat → Int32) : (MC_178 L xs).1.length = 73 := by rw [KC_178]; rfl
def RC_178 : Nat → Nat → Option Nat := g_up RC_177 71 0 (some 72)
theorem RR_178 (L : Nat) (xs : Nat → Int32) : (MC_178 L xs).2.2.2 = RC_178 := mR_Rr (RR_177 L xs)
theorem II_178 (L : Nat) (xs : Nat → Int32) : ∀ i, i ≠ 0 → (MC_178 L xs).2.1 i = IC_177 i := mR_In (II_177 L xs)
theorem LL_178 (L : Nat) (xs : Nat → Int32) : ∀ i k, (MC_178 L xs).2.2.1 i k = 0 := mR_Ln (LL_177 L xs)
def MC_179 (L : Nat) (xs : Nat → Int32) : gM := nw (20, 49) (MC_178 L xs)
theorem NW_179 (L : Nat) (xs : Nat → Int32) : nw (20, 49) (MC_178 L xs) = MC_179 L xs := rfl
set_option maxRecDepth 20000 in
theorem KC_179 (L : Nat) (xs : Nat → Int32) : (MC_179 L xs).1 = (g_K0 L).take 74 := (nw_K _ (MC_178 L xs)).trans (by rw [KC_178]; rfl)
set_option maxRecDepth 20000 in
theorem LN_179 (L : Nat) (xs : Nat → Int32) : (MC_179 L xs).1.length = 74 := by rw [KC_179]; rfl
def RC_179 : Nat → Nat → Option Nat := g_row RC_178 73 (fun _ => none)
theorem RR_179 (L : Nat) (xs : Nat → Int32) : (MC_179 L xs).2.2.2 = RC_179 := nw_R (LN_178 L xs) (RR_178 L xs)
def IC_179 : Nat → Nat → Int32 := g_row IC_177 73 (fun _ => 0)
theorem II_179 (L : Nat) (xs : Nat → Int32) : ∀ i, i ≠ 0 → (MC_179 L xs).2.1 i = IC_179 i := nw_I (LN_178 L xs) (II_178 L xs)
theorem LL_179 (L : Nat) (xs : Nat → Int32) : ∀ i k, (MC_179 L xs).2.2.1 i k = 0 := nw_L (LL_178 L xs)
def MC_180 (L : Nat) (xs : Nat → Int32) : gM := mR (MC_179 L xs) 71 1 (some 73)
set_option maxRecDepth 20000 in
theorem ST_180 (L : Nat) (xs : Nat → Int32) : pR 8 (MC_179 L xs) (some 71) 1 (some 73) = some (MC_180 L xs) := pR_of (by unfold g_k; rw [KC_179]; rfl)
theorem KC_180 (L : Nat) (xs : Nat → Int32) : (MC_180 L xs).1 = (g_K0 L).take 74 := (mR_K (MC_179 L xs) _ _ _).trans (KC_179 L xs)
set_option maxRecDepth 20000 in
theorem LN_180 (L : Nat) (xs : Nat → Int32) : (MC_180 L xs).1.length = 74 := by rw [KC_180]; rfl
def RC_180 : Nat → Nat → Option Nat := g_up RC_179 71 1 (some 73)
theorem RR_180 (L : Nat) (xs : Nat → Int32) : (MC_180 L xs).2.2.2 = RC_180 := mR_Rr (RR_179 L xs)
theorem II_180 (L : Nat) (xs : Nat → Int32) : ∀ i, i ≠ 0 → (MC_180 L xs).2.1 i = IC_179 i := mR_In (II_179 L xs)
theorem LL_180 (L : Nat) (xs : Nat → Int32) : ∀ i k, (MC_180 L xs).2.2.1 i k = 0 := mR_Ln (LL_179 L xs)
def MC_181 (L : Nat) (xs : Nat → Int32) : gM := nw (20, 7) (MC_180 L xs)
theorem NW_181 (L : Nat) (xs : Nat → Int32) : nw (20, 7) (MC_180 L xs) = MC_181 L xs := rfl
set_option maxRecDepth 20000 in
theorem KC_181 (L : Nat) (xs : Nat → Int32) : (MC_181 L xs).1 = (g_K0 L).take 75 := (nw_K _ (MC_180 L xs)).trans (by rw [KC_180]; rfl)
set_option maxRecDepth 20000 in
theorem LN_181 (L : Nat) (xs : Nat → Int32) : (MC_181 L xs).1.length = 75 := by rw [KC_181]; rfl
def RC_181 : Nat → Nat → Option Nat := g_row RC_180 74 (fun _ => none)
theorem RR_181 (L : Nat) (xs : Nat → Int32) : (MC_181 L xs).2.2.2 = RC_181 := nw_R (LN_180 L xs) (RR_180 L xs)
def IC_181 : Nat → Nat → Int32 := g_row IC_179 74 (fun _ => 0)
theorem II_181 (L : Nat) (xs : Nat → Int32) : ∀ i, i ≠ 0 → (MC_181 L xs).2.1 i = IC_181 i := nw_I (LN_180 L xs) (II_180 L xs)
theorem LL_181 (L : Nat) (xs : Nat → Int32) : ∀ i k, (MC_181 L xs).2.2.1 i k = 0 := nw_L (LL_180 L xs)
def MC_182 (L : Nat) (xs : Nat → Int32) : gM := mR (MC_181 L xs) 71 2 (some 74)
set_option maxRecDepth 20000 in
theorem ST_182 (L : Nat) (xs : Nat → Int32) : pR 8 (MC_181 L xs) (some 71) 2 (some 74) = some (MC_182 L xs) := pR_of (by unfold g_k; rw [KC_181]; rfl)
theorem KC_182 (L : Nat) (xs : Nat → Int32) : (MC_182 L xs).1 = (g_K0 L).take 75 := (mR_K (MC_181 L xs) _ _ _).trans (KC_181 L xs)
set_option maxRecDepth 20000 in
theorem LN_182 (L : Nat) (xs : Nat → Int32) : (MC_182 L xs).1.length = 75 := by rw [KC_182]; rfl
def RC_182 : Nat → Nat → Option Nat := g_up RC_181 71 2 (some 74)
theorem RR_182 (L : Nat) (xs : Nat → Int32) : (MC_182 L xs).2.2.2 = RC_182 := mR_Rr (RR_181 L xs)
theorem II_182 (L : Nat) (xs : Nat → Int32) : ∀ i, i ≠ 0 → (MC_182 L xs).2.1 i = IC_181 i := mR_In (II_181 L xs)
theorem LL_182 (L : Nat) (xs : Nat → Int32) : ∀ i k, (MC_182 L xs).2.2.1 i k = 0 := mR_Ln (LL_181 L xs)
def MC_183 (L : Nat) (xs : Nat → Int32) : gM := nw (20, 7) (MC_182 L xs)
theorem NW_183 (L : Nat) (xs : Nat → Int32) : nw (20, 7) (MC_182 L xs) = MC_183 L xs := rfl
set_option maxRecDepth 20000 in
theorem KC_183 (L : Nat) (xs : Nat → Int32) : (MC_183 L xs).1 = (g_K0 L).take 76 := (nw_K _ (MC_182 L xs)).trans (by rw [KC_182]; rfl)
set_option maxRecDepth 20000 in
theorem LN_183 (L : Nat) (xs : Nat → Int32) : (MC_183 L xs).1.length = 76 := by rw [KC_183]; rfl
def RC_183 : Nat → Nat → Option Nat := g_row RC_182 75 (fun _ => none)
theorem RR_183 (L : Nat) (xs : Nat → Int32) : (MC_183 L xs).2.2.2 = RC_183 := nw_R (LN_182 L xs) (RR_182 L xs)
def IC_183 : Nat → Nat → Int32 := g_row IC_181 75 (fun _ => 0)
theorem II_183 (L : Nat) (xs : Nat → Int32) : ∀ i, i ≠ 0 → (MC_183 L xs).2.1 i = IC_183 i := nw_I (LN_182 L xs) (II_182 L xs)
theorem LL_183 (L : Nat) (xs : Nat → Int32) : ∀ i k, (MC_183 L xs).2.2.1 i k = 0 := nw_L (LL_182 L xs)
def MC_184 (L : Nat) (xs : Nat → Int32) : gM := mR (MC_183 L xs) 71 3 (some 75)
set_option maxRecDepth 20000 in
theorem ST_184 (L : Nat) (xs : Nat → Int32) : pR 8 (MC_183 L xs) (some 71) 3 (some 75) = some (MC_184 L xs) := pR_of (by unfold g_k; rw [KC_183]; rfl)
theorem KC_184 (L : Nat) (xs : Nat → Int32) : (MC_184 L xs).1 = (g_K0 L).take 76 := (mR_K (MC_183 L xs) _ _ _).trans (KC_183 L xs)
set_option maxRecDepth 20000 in
theorem LN_184 (L : Nat) (xs : Nat → Int32) : (MC_184 L xs).1.length = 76 := by rw [KC_184]; rfl
def RC_184 : Nat → Nat → Option Nat := g_up RC_183 71 3 (some 75)
theorem RR_184 (L : Nat) (xs : Nat → Int32) : (MC_184 L xs).2.2.2 = RC_184 := mR_Rr (RR_183 L xs)
theorem II_184 (L : Nat) (xs : Nat → Int32) : ∀ i, i ≠ 0 → (MC_184 L xs).2.1 i = IC_183 i := mR_In (II_183 L xs)
theorem LL_184 (L : Nat) (xs : Nat → Int32) : ∀ i k, (MC_184 L xs).2.2.1 i k = 0 := mR_Ln (LL_183 L xs)
def MC_185 (L : Nat) (xs : Nat → Int32) : gM := mI (MC_184 L xs) 71 4 (0 : Int32)
set_option maxRecDepth 20000 in
theorem ST_185 (L : Nat) (xs : Nat → Int32) : pI 8 (MC_184 L xs) (some 71) 4 (0 : Int32) = some (MC_185 L xs) := pI_of (by unfold g_k; rw [KC_184]; rfl)
theorem KC_185 (L : Nat) (xs : Nat → Int32) : (MC_185 L xs).1 = (g_K0 L).take 76 := (mI_K (MC_184 L xs) _ _ _).trans (KC_184 L xs)
set_option maxRecDepth 20000 in
theorem LN_185 (L : Nat) (xs : Nat → Int32) : (MC_185 L xs).1.length = 76 := by rw [KC_185]; rfl
theorem RR_185 (L : Nat) (xs : Nat → Int32) : (MC_185 L xs).2.2.2 = RC_184 := (mI_Rn (MC_184 L xs) _ _ _).trans (RR_184 L xs)
def IC_185 : Nat → Nat → Int32 := g_up IC_183 71 4 (0)
theorem II_185 (L : Nat) (xs : Nat → Int32) : ∀ i, i ≠ 0 → (MC_185 L xs).2.1 i = IC_185 i := mI_I (II_184 L xs)
theorem LL_185 (L : Nat) (xs : Nat → Int32) : ∀ i k, (MC_185 L xs).2.2.1 i k = 0 := mI_Ln (LL_184 L xs)
def MC_186 (L : Nat) (xs : Nat → Int32) : gM := mI (MC_185 L xs) 71 5 (0 : Int32)
set_option maxRecDepth 20000 in
theorem ST_186 (L : Nat) (xs : Nat → Int32) : pI 8 (MC_185 L xs) (some 71) 5 (0 : Int32) = some (MC_186 L xs) := pI_of (by unfold g_k; rw [KC_185]; rfl)
theorem KC_186 (L : Nat) (xs : Nat → Int32) : (MC_186 L xs).1 = (g_K0 L).take 76 := (mI_K (MC_185 L xs) _ _ _).trans (KC_185 L xs)
set_option maxRecDepth 20000 in
theorem LN_186 (L : Nat) (xs : Nat → Int32) : (MC_186 L xs).1.length = 76 := by rw [KC_186]; rfl
theorem RR_186 (L : Nat) (xs : Nat → Int32) : (MC_186 L xs).2.2.2 = RC_184 := (mI_Rn (MC_185 L xs) _ _ _).trans (RR_185 L xs)
def IC_186 : Nat → Nat → Int32 := g_up IC_185 71 5 (0)
theorem II_186 (L : Nat) (xs : Nat → Int32) : ∀ i, i ≠ 0 → (MC_186 L xs).2.1 i = IC_186 i := mI_I (II_185 L xs)
theorem LL_186 (L : Nat) (xs : Nat → Int32) : ∀ i k, (MC_186 L xs).2.2.1 i k = 0 := mI_Ln (LL_185 L xs)
def MC_187 (L : Nat) (xs : Nat → Int32) : gM := mI (MC_186 L xs) 71 6 (0 : Int32)
set_option maxRecDepth 20000 in
theorem ST_187 (L : Nat) (xs : Nat → Int32) : pI 8 (MC_186 L xs) (some 71) 6 (0 : Int32) = some (MC_187 L xs) := pI_of (by unfold g_k; rw [KC_186]; rfl)
theorem KC_187 (L : Nat) (xs : Nat → Int32) : (MC_187 L xs).1 = (g_K0 L).take 76 := (mI_K (MC_186 L xs) _ _ _).trans (KC_186 L xs)
set_option maxRecDepth 20000 in
theorem LN_187 (L : Nat) (xs : Nat → Int32) : (MC_187 L xs).1.length = 76 := by rw [KC_187]; rfl
theorem RR_187 (L : Nat) (xs : Nat → Int32) : (MC_187 L xs).2.2.2 = RC_184 := (mI_Rn (MC_186 L xs) _ _ _).trans (RR_186 L xs)
def IC_187 : Nat → Nat → Int32 := g_up IC_186 71 6 (0)
theorem II_187 (L : Nat) (xs : Nat → Int32) : ∀ i, i ≠ 0 → (MC_187 L xs).2.1 i = IC_187 i := mI_I (II_186 L xs)
theorem LL_187 (L : Nat) (xs : Nat → Int32) : ∀ i k, (MC_187 L xs).2.2.1 i k = 0 := mI_Ln (LL_186 L xs)
def MC_188 (L : Nat) (xs : Nat → Int32) : gM := mR (MC_187 L xs) 20 10 (some 71)
set_option maxRecDepth 20000 in
theorem ST_188 (L : Nat) (xs : Nat → Int32) : sR 24 (MC_187 L xs) (some 20) (10 : Int32) (some 71) = some (MC_188 L xs) := sR_of (n := 20) (by unfold g_k; rw [KC_187]; rfl) (by unfold g_k; rw [KC_187]; rfl) (by decide) (by decide)
theorem KC_188 (L : Nat) (xs : Nat → Int32) : (MC_188 L xs).1 = (g_K0 L).take 76 := (mR_K (MC_187 L xs) _ _ _).trans (KC_187 L xs)
set_option maxRecDepth 20000 in
theorem LN_188 (L : Nat) (xs : Nat → Int32) : (MC_188 L xs).1.length = 76 := by rw [KC_188]; rfl
def RC_188 : Nat → Nat → Option Nat := g_up RC_184 20 10 (some 71)
theorem RR_188 (L : Nat) (xs : Nat → Int32) : (MC_188 L xs).2.2.2 = RC_188 := mR_Rr (RR_187 L xs)
theorem II_188 (L : Nat) (xs : Nat → Int32) : ∀ i, i ≠ 0 → (MC_188 L xs).2.1 i = IC_187 i := mR_In (II_187 L xs)
theorem LL_188 (L : Nat) (xs : Nat → Int32) : ∀ i k, (MC_188 L xs).2.2.1 i k = 0 := mR_Ln (LL_187 L xs)
set_option maxRecDepth 20000 in
theorem GR_12 (L : Nat) (xs : Nat → Int32) : gR 4 (MC_188 L xs) (some 19) 0 = some (some 20) := gR_of (by unfold g_k; rw [KC_188]; rfl) (by rw [RR_188]; decide +kernel)
def MC_189 (L : Nat) (xs : Nat → Int32) : gM := nw (8, 0) (MC_188 L xs)
theorem NW_189 (L : Nat) (xs : Nat → Int32) : nw (8, 0) (MC_188 L xs) = MC_189 L xs := rfl
set_option maxRecDepth 20000 in
theorem KC_189 (L : Nat) (xs : Nat → Int32) : (MC_189 L xs).1 = (g_K0 L).take 77 := (nw_K _ (MC_188 L xs)).trans (by rw [KC_188]; rfl)
set_option maxRecDepth 20000 in
theorem LN_189 (L : Nat) (xs : Nat → Int32) : (MC_189 L xs).1.length = 77 := by rw [KC_189]; rfl
def RC_189 : Nat → Nat → Option Nat := g_row RC_188 76 (fun _ => none)
theorem RR_189 (L : Nat) (xs : Nat → Int32) : (MC_189 L xs).2.2.2 = RC_189 := nw_R (LN_188 L xs) (RR_188 L xs)
def IC_189 : Nat → Nat → Int32 := g_row IC_187 76 (fun _ => 0)
theorem II_189 (L : Nat) (xs : Nat → Int32) : ∀ i, i ≠ 0 → (MC_189 L xs).2.1 i = IC_189 i := nw_I (LN_188 L xs) (II_188 L xs)
theorem LL_189 (L : Nat) (xs : Nat → Int32) : ∀ i k, (MC_189 L xs).2.2.1 i k = 0 := nw_L (LL_188 L xs)
def MC_190 (L : Nat) (xs : Nat → Int32) : gM := nw (20, 49) (MC_189 L xs)
theorem NW_190 (L : Nat) (xs : Nat → Int32) : nw (20, 49) (MC_189 L xs) = MC_190 L xs := rfl
set_option maxRecDepth 20000 in
theorem KC_190 (L : Nat) (xs : Nat → Int32) : (MC_190 L xs).1 = (g_K0 L).take 78 := (nw_K _ (MC_189 L xs)).trans (by rw [KC_189]; rfl)
set_option maxRecDepth 20000 in
theorem LN_190 (L : Nat) (xs : Nat → Int32) : (MC_190 L xs).1.length = 78 := by rw [KC_190]; rfl
def RC_190 : Nat → Nat → Option Nat := g_row RC_189 77 (fun _ => none)
theorem RR_190 (L : Nat) (xs : Nat → Int32) : (MC_190 L xs).2.2.2 = RC_190 := nw_R (LN_189 L xs) (RR_189 L xs)
def IC_190 : Nat → Nat → Int32 := g_row IC_189 77 (fun _ => 0)
theorem II_190 (L : Nat) (xs : Nat → Int32) : ∀ i, i ≠ 0 → (MC_190 L xs).2.1 i = IC_190 i := nw_I (LN_189 L xs) (II_189 L xs)
theorem LL_190 (L : Nat) (xs : Nat → Int32) : ∀ i k, (MC_190 L xs).2.2.1 i k = 0 := nw_L (LL_189 L xs)
def MC_191 (L : Nat) (xs : Nat → Int32) : gM := mR (MC_190 L xs) 76 0 (some 77)
set_option maxRecDepth 20000 in
theorem ST_191 (L : Nat) (xs : Nat → Int32) : pR 8 (MC_190 L xs) (some 76) 0 (some 77) = some (MC_191 L xs) := pR_of (by unfold g_k; rw [KC_190]; rfl)
theorem KC_191 (L : Nat) (xs : Nat → Int32) : (MC_191 L xs).1 = (g_K0 L).take 78 := (mR_K (MC_190 L xs) _ _ _).trans (KC_190 L xs)
set_option maxRecDepth 20000 in
theorem LN_191 (L : Nat) (xs : Nat → Int32) : (MC_191 L xs).1.length = 78 := by rw [KC_191]; rfl
def RC_191 : Nat → Nat → Option Nat := g_up RC_190 76 0 (some 77)
theorem RR_191 (L : Nat) (xs : Nat → Int32) : (MC_191 L xs).2.2.2 = RC_191 := mR_Rr (RR_190 L xs)
theorem II_191 (L : Nat) (xs : Nat → Int32) : ∀ i, i ≠ 0 → (MC_191 L xs).2.1 i = IC_190 i := mR_In (II_190 L xs)
theorem LL_191 (L : Nat) (xs : Nat → Int32) : ∀ i k, (MC_191 L xs).2.2.1 i k = 0 := mR_Ln (LL_190 L xs)
def MC_192 (L : Nat) (xs : Nat → Int32) : gM := nw (20, 49) (MC_191 L xs)
theorem NW_192 (L : Nat) (xs : Nat → Int32) : nw (20, 49) (MC_191 L xs) = MC_192 L xs := rfl
set_option maxRecDepth 20000 in
theorem KC_192 (L : Nat) (xs : Nat → Int32) : (MC_192 L xs).1 = (g_K0 L).take 79 := (nw_K _ (MC_191 L xs)).trans (by rw [KC_191]; rfl)
set_option maxRecDepth 20000 in
theorem LN_192 (L : Nat) (xs : Nat → Int32) : (MC_192 L xs).1.length = 79 := by rw [KC_192]; rfl
def RC_192 : Nat → Nat → Option Nat := g_row RC_191 78 (fun _ => none)
theorem RR_192 (L : Nat) (xs : Nat → Int32) : (MC_192 L xs).2.2.2 = RC_192 := nw_R (LN_191 L xs) (RR_191 L xs)
def IC_192 : Nat → Nat → Int32 := g_row IC_190 78 (fun _ => 0)
theorem II_192 (L : Nat) (xs : Nat → Int32) : ∀ i, i ≠ 0 → (MC_192 L xs).2.1 i = IC_192 i := nw_I (LN_191 L xs) (II_191 L xs)
theorem LL_192 (L : Nat) (xs : Nat → Int32) : ∀ i k, (MC_192 L xs).2.2.1 i k = 0 := nw_L (LL_191 L xs)
def MC_193 (L : Nat) (xs : Nat → Int32) : gM := mR (MC_192 L xs) 76 1 (some 78)
set_option maxRecDepth 20000 in
theorem ST_193 (L : Nat) (xs : Nat → Int32) : pR 8 (MC_192 L xs) (some 76) 1 (some 78) = some (MC_193 L xs) := pR_of (by unfold g_k; rw [KC_192]; rfl)
theorem KC_193 (L : Nat) (xs : Nat → Int32) : (MC_193 L xs).1 = (g_K0 L).take 79 := (mR_K (MC_192 L xs) _ _ _).trans (KC_192 L xs)
set_option maxRecDepth 20000 in
theorem LN_193 (L : Nat) (xs : Nat → Int32) : (MC_193 L xs).1.length = 79 := by rw [KC_193]; rfl
def RC_193 : Nat → Nat → Option Nat := g_up RC_192 76 1 (some 78)
theorem RR_193 (L : Nat) (xs : Nat → Int32) : (MC_193 L xs).2.2.2 = RC_193 := mR_Rr (RR_192 L xs)
theorem II_193 (L : Nat) (xs : Nat → Int32) : ∀ i, i ≠ 0 → (MC_193 L xs).2.1 i = IC_192 i := mR_In (II_192 L xs)
theorem LL_193 (L : Nat) (xs : Nat → Int32) : ∀ i k, (MC_193 L xs).2.2.1 i k = 0 := mR_Ln (LL_192 L xs)
def MC_194 (L : Nat) (xs : Nat → Int32) : gM := nw (20, 7) (MC_193 L xs)
theorem NW_194 (L : Nat) (xs : Nat → Int32) : nw (20, 7) (MC_193 L xs) = MC_194 L xs := rfl
set_option maxRecDepth 20000 in
theorem KC_194 (L : Nat) (xs : Nat → Int32) : (MC_194 L xs).1 = (g_K0 L).take 80 := (nw_K _ (MC_193 L xs)).trans (by rw [KC_193]; rfl)
set_option maxRecDepth 20000 in
theorem LN_194 (L : Nat) (xs : Nat → Int32) : (MC_194 L xs).1.length = 80 := by rw [KC_194]; rfl
def RC_194 : Nat → Nat → Option Nat := g_row RC_193 79 (fun _ => none)
theorem RR_194 (L : Nat) (xs : Nat → Int32) : (MC_194 L xs).2.2.2 = RC_194 := nw_R (LN_193 L xs) (RR_193 L xs)
def IC_194 : Nat → Nat → Int32 := g_row IC_192 79 (fun _ => 0)
theorem II_194 (L : Nat) (xs : Nat → Int32) : ∀ i, i ≠ 0 → (MC_194 L xs).2.1 i = IC_194 i := nw_I (LN_193 L xs) (II_193 L xs)
theorem LL_194 (L : Nat) (xs : Nat → Int32) : ∀ i k, (MC_194 L xs).2.2.1 i k = 0 := nw_L (LL_193 L xs)
def MC_195 (L : Nat) (xs : Nat → Int32) : gM := mR (MC_194 L xs) 76 2 (some 79)
set_option maxRecDepth 20000 in
theorem ST_195 (L : Nat) (xs : Nat → Int32) : pR 8 (MC_194 L xs) (some 76) 2 (some 79) = some (MC_195 L xs) := pR_of (by unfold g_k; rw [KC_194]; rfl)
theorem KC_195 (L : Nat) (xs : Nat → Int32) : (MC_195 L xs).1 = (g_K0 L).take 80 := (mR_K (MC_194 L xs) _ _ _).trans (KC_194 L xs)
set_option maxRecDepth 20000 in
theorem LN_195 (L : Nat) (xs : Nat → Int32) : (MC_195 L xs).1.length = 80 := by rw [KC_195]; rfl
def RC_195 : Nat → Nat → Option Nat := g_up RC_194 76 2 (some 79)
theorem RR_195 (L : Nat) (xs : Nat → Int32) : (MC_195 L xs).2.2.2 = RC_195 := mR_Rr (RR_194 L xs)
theorem II_195 (L : Nat) (xs : Nat → Int32) : ∀ i, i ≠ 0 → (MC_195 L xs).2.1 i = IC_194 i := mR_In (II_194 L xs)
theorem LL_195 (L : Nat) (xs : Nat → Int32) : ∀ i k, (MC_195 L xs).2.2.1 i k = 0 := mR_Ln (LL_194 L xs)
def MC_196 (L : Nat) (xs : Nat → Int32) : gM := nw (20, 7) (MC_195 L xs)
theorem NW_196 (L : Nat) (xs : Nat → Int32) : nw (20, 7) (MC_195 L xs) = MC_196 L xs := rfl
set_option maxRecDepth 20000 in
theorem KC_196 (L : Nat) (xs : Nat → Int32) : (MC_196 L xs).1 = (g_K0 L).take 81 := (nw_K _ (MC_195 L xs)).trans (by rw [KC_195]; rfl)
set_option maxRecDepth 20000 in
theorem LN_196 (L : Nat) (xs : Nat → Int32) : (MC_196 L xs).1.length = 81 := by rw [KC_196]; rfl
def RC_196 : Nat → Nat → Option Nat := g_row RC_195 80 (fun _ => none)
theorem RR_196 (L : Nat) (xs : Nat → Int32) : (MC_196 L xs).2.2.2 = RC_196 := nw_R (LN_195 L xs) (RR_195 L xs)
def IC_196 : Nat → Nat → Int32 := g_row IC_194 80 (fun _ => 0)
theorem II_196 (L : Nat) (xs : Nat → Int32) : ∀ i, i ≠ 0 → (MC_196 L xs).2.1 i = IC_196 i := nw_I (LN_195 L xs) (II_195 L xs)
theorem LL_196 (L : Nat) (xs : Nat → Int32) : ∀ i k, (MC_196 L xs).2.2.1 i k = 0 := nw_L (LL_195 L xs)
def MC_197 (L : Nat) (xs : Nat → Int32) : gM := mR (MC_196 L xs) 76 3 (some 80)
set_option maxRecDepth 20000 in
theorem ST_197 (L : Nat) (xs : Nat → Int32) : pR 8 (MC_196 L xs) (some 76) 3 (some 80) = some (MC_197 L xs) := pR_of (by unfold g_k; rw [KC_196]; rfl)
theorem KC_197 (L : Nat) (xs : Nat → Int32) : (MC_197 L xs).1 = (g_K0 L).take 81 := (mR_K (MC_196 L xs) _ _ _).trans (KC_196 L xs)
set_option maxRecDepth 20000 in
theorem LN_197 (L : Nat) (xs : Nat → Int32) : (MC_197 L xs).1.length = 81 := by rw [KC_197]; rfl
def RC_197 : Nat → Nat → Option Nat := g_up RC_196 76 3 (some 80)
theorem RR_197 (L : Nat) (xs : Nat → Int32) : (MC_197 L xs).2.2.2 = RC_197 := mR_Rr (RR_196 L xs)
theorem II_197 (L : Nat) (xs : Nat → Int32) : ∀ i, i ≠ 0 → (MC_197 L xs).2.1 i = IC_196 i := mR_In (II_196 L xs)
theorem LL_197 (L : Nat) (xs : Nat → Int32) : ∀ i k, (MC_197 L xs).2.2.1 i k = 0 := mR_Ln (LL_196 L xs)
def MC_198 (L : Nat) (xs : Nat → Int32) : gM := mI (MC_197 L xs) 76 4 (0 : Int32)
set_option maxRecDepth 20000 in
theorem ST_198 (L : Nat) (xs : Nat → Int32) : pI 8 (MC_197 L xs) (some 76) 4 (0 : Int32) = some (MC_198 L xs) := pI_of (by unfold g_k; rw [KC_197]; rfl)
theorem KC_198 (L : Nat) (xs : Nat → Int32) : (MC_198 L xs).1 = (g_K0 L).take 81 := (mI_K (MC_197 L xs) _ _ _).trans (KC_197 L xs)
set_option maxRecDepth 20000 in
theorem LN_198 (L : Nat) (xs : Nat → Int32) : (MC_198 L xs).1.length = 81 := by rw [KC_198]; rfl
theorem RR_198 (L : Nat) (xs : Nat → Int32) : (MC_198 L xs).2.2.2 = RC_197 := (mI_Rn (MC_197 L xs) _ _ _).trans (RR_197 L xs)
def IC_198 : Nat → Nat → Int32 := g_up IC_196 76 4 (0)
theorem II_198 (L : Nat) (xs : Nat → Int32) : ∀ i, i ≠ 0 → (MC_198 L xs).2.1 i = IC_198 i := mI_I (II_197 L xs)
theorem LL_198 (L : Nat) (xs : Nat → Int32) : ∀ i k, (MC_198 L xs).2.2.1 i k = 0 := mI_Ln (LL_197 L xs)
def MC_199 (L : Nat) (xs : Nat → Int32) : gM := mI (MC_198 L xs) 76 5 (0 : Int32)
set_option maxRecDepth 20000 in
theorem ST_199 (L : Nat) (xs : Nat → Int32) : pI 8 (MC_198 L xs) (some 76) 5 (0 : Int32) = some (MC_199 L xs) := pI_of (by unfold g_k; rw [KC_198]; rfl)
theorem KC_199 (L : Nat) (xs : Nat → Int32) : (MC_199 L xs).1 = (g_K0 L).take 81 := (mI_K (MC_198 L xs) _ _ _).trans (KC_198 L xs)
set_option maxRecDepth 20000 in
theorem LN_199 (L : Nat) (xs : Nat → Int32) : (MC_199 L xs).1.length = 81 := by rw [KC_199]; rfl
theorem RR_199 (L : Nat) (xs : Nat → Int32) : (MC_199 L xs).2.2.2 = RC_197 := (mI_Rn (MC_198 L xs) _ _ _).trans (RR_198 L xs)
def IC_199 : Nat → Nat → Int32 := g_up IC_198 76 5 (0)
theorem II_199 (L : Nat) (xs : Nat → Int32) : ∀ i, i ≠ 0 → (MC_199 L xs).2.1 i = IC_199 i := mI_I (II_198 L xs)
theorem LL_199 (L : Nat) (xs : Nat → Int32) : ∀ i k, (MC_199 L xs).2.2.1 i k = 0 := mI_Ln (LL_198 L xs)
def MC_200 (L : Nat) (xs : Nat → Int32) : gM := mI (MC_199 L xs) 76 6 (0 : Int32)
set_option maxRecDepth 20000 in
theorem ST_200 (L : Nat) (xs : Nat → Int32) : pI 8 (MC_199 L xs) (some 76) 6 (0 : Int32) = some (MC_200 L xs) := pI_of (by unfold g_k; rw [KC_199]; rfl)
theorem KC_200 (L : Nat) (xs : Nat → Int32) : (MC_200 L xs).1 = (g_K0 L).take 81 := (mI_K (MC_199 L xs) _ _ _).trans (KC_199 L xs)
set_option maxRecDepth 20000 in
theorem LN_200 (L : Nat) (xs : Nat → Int32) : (MC_200 L xs).1.length = 81 := by rw [KC_200]; rfl
theorem RR_200 (L : Nat) (xs : Nat → Int32) : (MC_200 L xs).2.2.2 = RC_197 := (mI_Rn (MC_199 L xs) _ _ _).trans (RR_199 L xs)
def IC_200 : Nat → Nat → Int32 := g_up IC_199 76 6 (0)
theorem II_200 (L : Nat) (xs : Nat → Int32) : ∀ i, i ≠ 0 → (MC_200 L xs).2.1 i = IC_200 i := mI_I (II_199 L xs)
theorem LL_200 (L : Nat) (xs : Nat → Int32) : ∀ i k, (MC_200 L xs).2.2.1 i k = 0 := mI_Ln (LL_199 L xs)
def MC_201 (L : Nat) (xs : Nat → Int32) : gM := mR (MC_200 L xs) 20 11 (some 76)
set_option maxRecDepth 20000 in
theorem ST_201 (L : Nat) (xs : Nat → Int32) : sR 24 (MC_200 L xs) (some 20) (11 : Int32) (some 76) = some (MC_201 L xs) := sR_of (n := 20) (by unfold g_k; rw [KC_200]; rfl) (by unfold g_k; rw [KC_200]; rfl) (by decide) (by decide)
theorem KC_201 (L : Nat) (xs : Nat → Int32) : (MC_201 L xs).1 = (g_K0 L).take 81 := (mR_K (MC_200 L xs) _ _ _).trans (KC_200 L xs)
set_option maxRecDepth 20000 in
theorem LN_201 (L : Nat) (xs : Nat → Int32) : (MC_201 L xs).1.length = 81 := by rw [KC_201]; rfl
def RC_201 : Nat → Nat → Option Nat := g_up RC_197 20 11 (some 76)
theorem RR_201 (L : Nat) (xs : Nat → Int32) : (MC_201 L xs).2.2.2 = RC_201 := mR_Rr (RR_200 L xs)
theorem II_201 (L : Nat) (xs : Nat → Int32) : ∀ i, i ≠ 0 → (MC_201 L xs).2.1 i = IC_200 i := mR_In (II_200 L xs)
theorem LL_201 (L : Nat) (xs : Nat → Int32) : ∀ i k, (MC_201 L xs).2.2.1 i k = 0 := mR_Ln (LL_200 L xs)
set_option maxRecDepth 20000 in
theorem GR_13 (L : Nat) (xs : Nat → Int32) : gR 4 (MC_201 L xs) (some 19) 0 = some (some 20) := gR_of (by unfold g_k; rw [KC_201]; rfl) (by rw [RR_201]; decide +kernel)
def MC_202 (L : Nat) (xs : Nat → Int32) : gM := nw (8, 0) (MC_201 L xs)
theorem NW_202 (L : Nat) (xs : Nat → Int32) : nw (8, 0) (MC_201 L xs) = MC_202 L xs := rfl
set_option maxRecDepth 20000 in
theorem KC_202 (L : Nat) (xs : Nat → Int32) : (MC_202 L xs).1 = (g_K0 L).take 82 := (nw_K _ (MC_201 L xs)).trans (by rw [KC_201]; rfl)
set_option maxRecDepth 20000 in
theorem LN_202 (L : Nat) (xs : Nat → Int32) : (MC_202 L xs).1.length = 82 := by rw [KC_202]; rfl
def RC_202 : Nat → Nat → Option Nat := g_row RC_201 81 (fun _ => none)
theorem RR_202 (L : Nat) (xs : Nat → Int32) : (MC_202 L xs).2.2.2 = RC_202 := nw_R (LN_201 L xs) (RR_201 L xs)
def IC_202 : Nat → Nat → Int32 := g_row IC_200 81 (fun _ => 0)
theorem II_202 (L : Nat) (xs : Nat → Int32) : ∀ i, i ≠ 0 → (MC_202 L xs).2.1 i = IC_202 i := nw_I (LN_201 L xs) (II_201 L xs)
theorem LL_202 (L : Nat) (xs : Nat → Int32) : ∀ i k, (MC_202 L xs).2.2.1 i k = 0 := nw_L (LL_201 L xs)
def MC_203 (L : Nat) (xs : Nat → Int32) : gM := nw (20, 49) (MC_202 L xs)
theorem NW_203 (L : Nat) (xs : Nat → Int32) : nw (20, 49) (MC_202 L xs) = MC_203 L xs := rfl
set_option maxRecDepth 20000 in
theorem KC_203 (L : Nat) (xs : Nat → Int32) : (MC_203 L xs).1 = (g_K0 L).take 83 := (nw_K _ (MC_202 L xs)).trans (by rw [KC_202]; rfl)
set_option maxRecDepth 20000 in
theorem LN_203 (L : Nat) (xs : Nat → Int32) : (MC_203 L xs).1.length = 83 := by rw [KC_203]; rfl
def RC_203 : Nat → Nat → Option Nat := g_row RC_202 82 (fun _ => none)
theorem RR_203 (L : Nat) (xs : Nat → Int32) : (MC_203 L xs).2.2.2 = RC_203 := nw_R (LN_202 L xs) (RR_202 L xs)
def IC_203 : Nat → Nat → Int32 := g_row IC_202 82 (fun _ => 0)
theorem II_203 (L : Nat) (xs : Nat → Int32) : ∀ i, i ≠ 0 → (MC_203 L xs).2.1 i = IC_203 i := nw_I (LN_202 L xs) (II_202 L xs)
theorem LL_203 (L : Nat) (xs : Nat → Int32) : ∀ i k, (MC_203 L xs).2.2.1 i k = 0 := nw_L (LL_202 L xs)
def MC_204 (L : Nat) (xs : Nat → Int32) : gM := mR (MC_203 L xs) 81 0 (some 82)
set_option maxRecDepth 20000 in
theorem ST_204 (L : Nat) (xs : Nat → Int32) : pR 8 (MC_203 L xs) (some 81) 0 (some 82) = some (MC_204 L xs) := pR_of (by unfold g_k; rw [KC_203]; rfl)
theorem KC_204 (L : Nat) (xs : Nat → Int32) : (MC_204 L xs).1 = (g_K0 L).take 83 := (mR_K (MC_203 L xs) _ _ _).trans (KC_203 L xs)
set_option maxRecDepth 20000 in
theorem LN_204 (L : Nat) (xs : Nat → Int32) : (MC_204 L xs).1.length = 83 := by rw [KC_204]; rfl
def RC_204 : Nat → Nat → Option Nat := g_up RC_203 81 0 (some 82)
theorem RR_204 (L : Nat) (xs : Nat → Int32) : (MC_204 L xs).2.2.2 = RC_204 := mR_Rr (RR_203 L xs)
theorem II_204 (L : Nat) (xs : Nat → Int32) : ∀ i, i ≠ 0 → (MC_204 L xs).2.1 i = IC_203 i := mR_In (II_203 L xs)
theorem LL_204 (L : Nat) (xs : Nat → Int32) : ∀ i k, (MC_204 L xs).2.2.1 i k = 0 := mR_Ln (LL_203 L xs)
def MC_205 (L : Nat) (xs : Nat → Int32) : gM := nw (20, 49) (MC_204 L xs)
theorem NW_205 (L : Nat) (xs : Nat → Int32) : nw (20, 49) (MC_204 L xs) = MC_205 L xs := rfl
set_option maxRecDepth 20000 in
theorem KC_205 (L : Nat) (xs : Nat → Int32) : (MC_205 L xs).1 = (g_K0 L).take 84 := (nw_K _ (MC_204 L xs)).trans (by rw [KC_204]; rfl)
set_option maxRecDepth 20000 in
theorem LN_205 (L : Nat) (xs : Nat → Int32) : (MC_205 L xs).1.length = 84 := by rw [KC_205]; rfl
def RC_205 : Nat → Nat → Option Nat := g_row RC_204 83 (fun _ => none)
theorem RR_205 (L : Nat) (xs : Nat → Int32) : (MC_205 L xs).2.2.2 = RC_205 := nw_R (LN_204 L xs) (RR_204 L xs)
def IC_205 : Nat → Nat → Int32 := g_row IC_203 83 (fun _ => 0)
theorem II_205 (L : Nat) (xs : Nat → Int32) : ∀ i, i ≠ 0 → (MC_205 L xs).2.1 i = IC_205 i := nw_I (LN_204 L xs) (II_204 L xs)
theorem LL_205 (L : Nat) (xs : Nat → Int32) : ∀ i k, (MC_205 L xs).2.2.1 i k = 0 := nw_L (LL_204 L xs)
def MC_206 (L : Nat) (xs : Nat → Int32) : gM := mR (MC_205 L xs) 81 1 (some 83)
set_option maxRecDepth 20000 in
theorem ST_206 (L : Nat) (xs : Nat → Int32) : pR 8 (MC_205 L xs) (some 81) 1 (some 83) = some (MC_206 L xs) := pR_of (by unfold g_k; rw [KC_205]; rfl)
theorem KC_206 (L : Nat) (xs : Nat → Int32) : (MC_206 L xs).1 = (g_K0 L).take 84 := (mR_K (MC_205 L xs) _ _ _).trans (KC_205 L xs)
set_option maxRecDepth 20000 in
theorem LN_206 (L : Nat) (xs : Nat → Int32) : (MC_206 L xs).1.length = 84 := by rw [KC_206]; rfl
def RC_206 : Nat → Nat → Option Nat := g_up RC_205 81 1 (some 83)
theorem RR_206 (L : Nat) (xs : Nat → Int32) : (MC_206 L xs).2.2.2 = RC_206 := mR_Rr (RR_205 L xs)
theorem II_206 (L : Nat) (xs : Nat → Int32) : ∀ i, i ≠ 0 → (MC_206 L xs).2.1 i = IC_205 i := mR_In (II_205 L xs)
theorem LL_206 (L : Nat) (xs : Nat → Int32) : ∀ i k, (MC_206 L xs).2.2.1 i k = 0 := mR_Ln (LL_205 L xs)
def MC_207 (L : Nat) (xs : Nat → Int32) : gM := nw (20, 7) (MC_206 L xs)
theorem NW_207 (L : Nat) (xs : Nat → Int32) : nw (20, 7) (MC_206 L xs) = MC_207 L xs := rfl
set_option maxRecDepth 20000 in
theorem KC_207 (L : Nat) (xs : Nat → Int32) : (MC_207 L xs).1 = (g_K0 L).take 85 := (nw_K _ (MC_206 L xs)).trans (by rw [KC_206]; rfl)
set_option maxRecDepth 20000 in
theorem LN_207 (L : Nat) (xs : Nat → Int32) : (MC_207 L xs).1.length = 85 := by rw [KC_207]; rfl
def RC_207 : Nat → Nat → Option Nat := g_row RC_206 84 (fun _ => none)
theorem RR_207 (L : Nat) (xs : Nat → Int32) : (MC_207 L xs).2.2.2 = RC_207 := nw_R (LN_206 L xs) (RR_206 L xs)
def IC_207 : Nat → Nat → Int32 := g_row IC_205 84 (fun _ => 0)
theorem II_207 (L : Nat) (xs : Nat → Int32) : ∀ i, i ≠ 0 → (MC_207 L xs).2.1 i = IC_207 i := nw_I (LN_206 L xs) (II_206 L xs)
theorem LL_207 (L : Nat) (xs : Nat → Int32) : ∀ i k, (MC_207 L xs).2.2.1 i k = 0 := nw_L (LL_206 L xs)
def MC_208 (L : Nat) (xs : Nat → Int32) : gM := mR (MC_207 L xs) 81 2 (some 84)
set_option maxRecDepth 20000 in
theorem ST_208 (L : Nat) (xs : Nat → Int32) : pR 8 (MC_207 L xs) (some 81) 2 (some 84) = some (MC_208 L xs) := pR_of (by unfold g_k; rw [KC_207]; rfl)
theorem KC_208 (L : Nat) (xs : Nat → Int32) : (MC_208 L xs).1 = (g_K0 L).take 85 := (mR_K (MC_207 L xs) _ _ _).trans (KC_207 L xs)
set_option maxRecDepth 20000 in
theorem LN_208 (L : Nat) (xs : Nat → Int32) : (MC_208 L xs).1.length = 85 := by rw [KC_208]; rfl
def RC_208 : Nat → Nat → Option Nat := g_up RC_207 81 2 (some 84)
theorem RR_208 (L : Nat) (xs : Nat → Int32) : (MC_208 L xs).2.2.2 = RC_208 := mR_Rr (RR_207 L xs)
theorem II_208 (L : Nat) (xs : Nat → Int32) : ∀ i, i ≠ 0 → (MC_208 L xs).2.1 i = IC_207 i := mR_In (II_207 L xs)
theorem LL_208 (L : Nat) (xs : Nat → Int32) : ∀ i k, (MC_208 L xs).2.2.1 i k = 0 := mR_Ln (LL_207 L xs)
def MC_209 (L : Nat) (xs : Nat → Int32) : gM := nw (20, 7) (MC_208 L xs)
theorem NW_209 (L : Nat) (xs : Nat → Int32) : nw (20, 7) (MC_208 L xs) = MC_209 L xs := rfl
set_option maxRecDepth 20000 in
theorem KC_209 (L : Nat) (xs : Nat → Int32) : (MC_209 L xs).1 = (g_K0 L).take 86 := (nw_K _ (MC_208 L xs)).trans (by rw [KC_208]; rfl)
set_option maxRecDepth 20000 in
theorem LN_209 (L : Nat) (xs : Nat → Int32) : (MC_209 L xs).1.length = 86 := by rw [KC_209]; rfl
def RC_209 : Nat → Nat → Option Nat := g_row RC_208 85 (fun _ => none)
theorem RR_209 (L : Nat) (xs : Nat → Int32) : (MC_209 L xs).2.2.2 = RC_209 := nw_R (LN_208 L xs) (RR_208 L xs)
def IC_209 : Nat → Nat → Int32 := g_row IC_207 85 (fun _ => 0)
theorem II_209 (L : Nat) (xs : Nat → Int32) : ∀ i, i ≠ 0 → (MC_209 L xs).2.1 i = IC_209 i := nw_I (LN_208 L xs) (II_208 L xs)
theorem LL_209 (L : Nat) (xs : Nat → Int32) : ∀ i k, (MC_209 L xs).2.2.1 i k = 0 := nw_L (LL_208 L xs)
def MC_210 (L : Nat) (xs : Nat → Int32) : gM := mR (MC_209 L xs) 81 3 (some 85)
set_option maxRecDepth 20000 in
theorem ST_210 (L : Nat) (xs : Nat → Int32) : pR 8 (MC_209 L xs) (some 81) 3 (some 85) = some (MC_210 L xs) := pR_of (by unfold g_k; rw [KC_209]; rfl)
theorem KC_210 (L : Nat) (xs : Nat → Int32) : (MC_210 L xs).1 = (g_K0 L).take 86 := (mR_K (MC_209 L xs) _ _ _).trans (KC_209 L xs)
set_option maxRecDepth 20000 in
theorem LN_210 (L : Nat) (xs : Nat → Int32) : (MC_210 L xs).1.length = 86 := by rw [KC_210]; rfl
def RC_210 : Nat → Nat → Option Nat := g_up RC_209 81 3 (some 85)
theorem RR_210 (L : Nat) (xs : Nat → Int32) : (MC_210 L xs).2.2.2 = RC_210 := mR_Rr (RR_209 L xs)
theorem II_210 (L : Nat) (xs : Nat → Int32) : ∀ i, i ≠ 0 → (MC_210 L xs).2.1 i = IC_209 i := mR_In (II_209 L xs)
theorem LL_210 (L : Nat) (xs : Nat → Int32) : ∀ i k, (MC_210 L xs).2.2.1 i k = 0 := mR_Ln (LL_209 L xs)
def MC_211 (L : Nat) (xs : Nat → Int32) : gM := mI (MC_210 L xs) 81 4 (0 : Int32)
set_option maxRecDepth 20000 in
theorem ST_211 (L : Nat) (xs : Nat → Int32) : pI 8 (MC_210 L xs) (some 81) 4 (0 : Int32) = some (MC_211 L xs) := pI_of (by unfold g_k; rw [KC_210]; rfl)
theorem KC_211 (L : Nat) (xs : Nat → Int32) : (MC_211 L xs).1 = (g_K0 L).take 86 := (mI_K (MC_210 L xs) _ _ _).trans (KC_210 L xs)
set_option maxRecDepth 20000 in
theorem LN_211 (L : Nat) (xs : Nat → Int32) : (MC_211 L xs).1.length = 86 := by rw [KC_211]; rfl
theorem RR_211 (L : Nat) (xs : Nat → Int32) : (MC_211 L xs).2.2.2 = RC_210 := (mI_Rn (MC_210 L xs) _ _ _).trans (RR_210 L xs)
def IC_211 : Nat → Nat → Int32 := g_up IC_209 81 4 (0)
theorem II_211 (L : Nat) (xs : Nat → Int32) : ∀ i, i ≠ 0 → (MC_211 L xs).2.1 i = IC_211 i := mI_I (II_210 L xs)
theorem LL_211 (L : Nat) (xs : Nat → Int32) : ∀ i k, (MC_211 L xs).2.2.1 i k = 0 := mI_Ln (LL_210 L xs)
def MC_212 (L : Nat) (xs : Nat → Int32) : gM := mI (MC_211 L xs) 81 5 (0 : Int32)
set_option maxRecDepth 20000 in
theorem ST_212 (L : Nat) (xs : Nat → Int32) : pI 8 (MC_211 L xs) (some 81) 5 (0 : Int32) = some (MC_212 L xs) := pI_of (by unfold g_k; rw [KC_211]; rfl)
theorem KC_212 (L : Nat) (xs : Nat → Int32) : (MC_212 L xs).1 = (g_K0 L).take 86 := (mI_K (MC_211 L xs) _ _ _).trans (KC_211 L xs)
set_option maxRecDepth 20000 in
theorem LN_212 (L : Nat) (xs : Nat → Int32) : (MC_212 L xs).1.length = 86 := by rw [KC_212]; rfl
theorem RR_212 (L : Nat) (xs : Nat → Int32) : (MC_212 L xs).2.2.2 = RC_210 := (mI_Rn (MC_211 L xs) _ _ _).trans (RR_211 L xs)
def IC_212 : Nat → Nat → Int32 := g_up IC_211 81 5 (0)
theorem II_212 (L : Nat) (xs : Nat → Int32) : ∀ i, i ≠ 0 → (MC_212 L xs).2.1 i = IC_212 i := mI_I (II_211 L xs)
theorem LL_212 (L : Nat) (xs : Nat → Int32) : ∀ i k, (MC_212 L xs).2.2.1 i k = 0 := mI_Ln (LL_211 L xs)
def MC_213 (L : Nat) (xs : Nat → Int32) : gM := mI (MC_212 L xs) 81 6 (0 : Int32)
set_option maxRecDepth 20000 in
theorem ST_213 (L : Nat) (xs : Nat → Int32) : pI 8 (MC_212 L xs) (some 81) 6 (0 : Int32) = some (MC_213 L xs) := pI_of (by unfold g_k; rw [KC_212]; rfl)
theorem KC_213 (L : Nat) (xs : Nat → Int32) : (MC_213 L xs).1 = (g_K0 L).take 86 := (mI_K (MC_212 L xs) _ _ _).trans (KC_212 L xs)
set_option maxRecDepth 20000 in
theorem LN_213 (L : Nat) (xs : Nat → Int32) : (MC_213 L xs).1.length = 86 := by rw [KC_213]; rfl
theorem RR_213 (L : Nat) (xs : Nat → Int32) : (MC_213 L xs).2.2.2 = RC_210 := (mI_Rn (MC_212 L xs) _ _ _).trans (RR_212 L xs)
def IC_213 : Nat → Nat → Int32 := g_up IC_212 81 6 (0)
theorem II_213 (L : Nat) (xs : Nat → Int32) : ∀ i, i ≠ 0 → (MC_213 L xs).2.1 i = IC_213 i := mI_I (II_212 L xs)
theorem LL_213 (L : Nat) (xs : Nat → Int32) : ∀ i k, (MC_213 L xs).2.2.1 i k = 0 := mI_Ln (LL_212 L xs)
def MC_214 (L : Nat) (xs : Nat → Int32) : gM := mR (MC_213 L xs) 20 12 (some 81)
set_option maxRecDepth 20000 in
theorem ST_214 (L : Nat) (xs : Nat → Int32) : sR 24 (MC_213 L xs) (some 20) (12 : Int32) (some 81) = some (MC_214 L xs) := sR_of (n := 20) (by unfold g_k; rw [KC_213]; rfl) (by unfold g_k; rw [KC_213]; rfl) (by decide) (by decide)
theorem KC_214 (L : Nat) (xs : Nat → Int32) : (MC_214 L xs).1 = (g_K0 L).take 86 := (mR_K (MC_213 L xs) _ _ _).trans (KC_213 L xs)
set_option maxRecDepth 20000 in
theorem LN_214 (L : Nat) (xs : Nat → Int32) : (MC_214 L xs).1.length = 86 := by rw [KC_214]; rfl
def RC_214 : Nat → Nat → Option Nat := g_up RC_210 20 12 (some 81)
theorem RR_214 (L : Nat) (xs : Nat → Int32) : (MC_214 L xs).2.2.2 = RC_214 := mR_Rr (RR_213 L xs)
theorem II_214 (L : Nat) (xs : Nat → Int32) : ∀ i, i ≠ 0 → (MC_214 L xs).2.1 i = IC_213 i := mR_In (II_213 L xs)
theorem LL_214 (L : Nat) (xs : Nat → Int32) : ∀ i k, (MC_214 L xs).2.2.1 i k = 0 := mR_Ln (LL_213 L xs)
set_option maxRecDepth 20000 in
theorem GR_14 (L : Nat) (xs : Nat → Int32) : gR 4 (MC_214 L xs) (some 19) 0 = some (some 20) := gR_of (by unfold g_k; rw [KC_214]; rfl) (by rw [RR_214]; decide +kernel)
def MC_215 (L : Nat) (xs : Nat → Int32) : gM := nw (8, 0) (MC_214 L xs)
theorem NW_215 (L : Nat) (xs : Nat → Int32) : nw (8, 0) (MC_214 L xs) = MC_215 L xs := rfl
set_option maxRecDepth 20000 in
theorem KC_215 (L : Nat) (xs : Nat → Int32) : (MC_215 L xs).1 = (g_K0 L).take 87 := (nw_K _ (MC_214 L xs)).trans (by rw [KC_214]; rfl)
set_option maxRecDepth 20000 in
theorem LN_215 (L : Nat) (xs : Nat → Int32) : (MC_215 L xs).1.length = 87 := by rw [KC_215]; rfl
def RC_215 : Nat → Nat → Option Nat := g_row RC_214 86 (fun _ => none)
theorem RR_215 (L : Nat) (xs : Nat → Int32) : (MC_215 L xs).2.2.2 = RC_215 := nw_R (LN_214 L xs) (RR_214 L xs)
def IC_215 : Nat → Nat → Int32 := g_row IC_213 86 (fun _ => 0)
theorem II_215 (L : Nat) (xs : Nat → Int32) : ∀ i, i ≠ 0 → (MC_215 L xs).2.1 i = IC_215 i := nw_I (LN_214 L xs) (II_214 L xs)
theorem LL_215 (L : Nat) (xs : Nat → Int32) : ∀ i k, (MC_215 L xs).2.2.1 i k = 0 := nw_L (LL_214 L xs)
def MC_216 (L : Nat) (xs : Nat → Int32) : gM := nw (20, 49) (MC_215 L xs)
theorem NW_216 (L : Nat) (xs : Nat → Int32) : nw (20, 49) (MC_215 L xs) = MC_216 L xs := rfl
set_option maxRecDepth 20000 in
theorem KC_216 (L : Nat) (xs : Nat → Int32) : (MC_216 L xs).1 = (g_K0 L).take 88 := (nw_K _ (MC_215 L xs)).trans (by rw [KC_215]; rfl)
set_option maxRecDepth 20000 in
theorem LN_216 (L : Nat) (xs : Nat → Int32) : (MC_216 L xs).1.length = 88 := by rw [KC_216]; rfl
def RC_216 : Nat → Nat → Option Nat := g_row RC_215 87 (fun _ => none)
theorem RR_216 (L : Nat) (xs : Nat → Int32) : (MC_216 L xs).2.2.2 = RC_216 := nw_R (LN_215 L xs) (RR_215 L xs)
def IC_216 : Nat → Nat → Int32 := g_row IC_215 87 (fun _ => 0)
theorem II_216 (L : Nat) (xs : Nat → Int32) : ∀ i, i ≠ 0 → (MC_216 L xs).2.1 i = IC_216 i := nw_I (LN_215 L xs) (II_215 L xs)
theorem LL_216 (L : Nat) (xs : Nat → Int32) : ∀ i k, (MC_216 L xs).2.2.1 i k = 0 := nw_L (LL_215 L xs)
def MC_217 (L : Nat) (xs : Nat → Int32) : gM := mR (MC_216 L xs) 86 0 (some 87)
set_option maxRecDepth 20000 in
theorem ST_217 (L : Nat) (xs : Nat → Int32) : pR 8 (MC_216 L xs) (some 86) 0 (some 87) = some (MC_217 L xs) := pR_of (by unfold g_k; rw [KC_216]; rfl)
theorem KC_217 (L : Nat) (xs : Nat → Int32) : (MC_217 L xs).1 = (g_K0 L).take 88 := (mR_K (MC_216 L xs) _ _ _).trans (KC_216 L xs)
set_option maxRecDepth 20000 in
theorem LN_217 (L : Nat) (xs : Nat → Int32) : (MC_217 L xs).1.length = 88 := by rw [KC_217]; rfl
def RC_217 : Nat → Nat → Option Nat := g_up RC_216 86 0 (some 87)
theorem RR_217 (L : Nat) (xs : Nat → Int32) : (MC_217 L xs).2.2.2 = RC_217 := mR_Rr (RR_216 L xs)
theorem II_217 (L : Nat) (xs : Nat → Int32) : ∀ i, i ≠ 0 → (MC_217 L xs).2.1 i = IC_216 i := mR_In (II_216 L xs)
theorem LL_217 (L : Nat) (xs : Nat → Int32) : ∀ i k, (MC_217 L xs).2.2.1 i k = 0 := mR_Ln (LL_216 L xs)
def MC_218 (L : Nat) (xs : Nat → Int32) : gM := nw (20, 49) (MC_217 L xs)
theorem NW_218 (L : Nat) (xs : Nat → Int32) : nw (20, 49) (MC_217 L xs) = MC_218 L xs := rfl
set_option maxRecDepth 20000 in
theorem KC_218 (L : Nat) (xs : Nat → Int32) : (MC_218 L xs).1 = (g_K0 L).take 89 := (nw_K _ (MC_217 L xs)).trans (by rw [KC_217]; rfl)
set_option maxRecDepth 20000 in
theorem LN_218 (L : Nat) (xs : Nat → Int32) : (MC_218 L xs).1.length = 89 := by rw [KC_218]; rfl
def RC_218 : Nat → Nat → Option Nat := g_row RC_217 88 (fun _ => none)
theorem RR_218 (L : Nat) (xs : Nat → Int32) : (MC_218 L xs).2.2.2 = RC_218 := nw_R (LN_217 L xs) (RR_217 L xs)
def IC_218 : Nat → Nat → Int32 := g_row IC_216 88 (fun _ => 0)
theorem II_218 (L : Nat) (xs : Nat → Int32) : ∀ i, i ≠ 0 → (MC_218 L xs).2.1 i = IC_218 i := nw_I (LN_217 L xs) (II_217 L xs)
theorem LL_218 (L : Nat) (xs : Nat → Int32) : ∀ i k, (MC_218 L xs).2.2.1 i k = 0 := nw_L (LL_217 L xs)
def MC_219 (L : Nat) (xs : Nat → Int32) : gM := mR (MC_218 L xs) 86 1 (some 88)
set_option maxRecDepth 20000 in
theorem ST_219 (L : Nat) (xs : Nat → Int32) : pR 8 (MC_218 L xs) (some 86) 1 (some 88) = some (MC_219 L xs) := pR_of (by unfold g_k; rw [KC_218]; rfl)
theorem KC_219 (L : Nat) (xs : Nat → Int32) : (MC_219 L xs).1 = (g_K0 L).take 89 := (mR_K (MC_218 L xs) _ _ _).trans (KC_218 L xs)
set_option maxRecDepth 20000 in
theorem LN_219 (L : Nat) (xs : Nat → Int32) : (MC_219 L xs).1.length = 89 := by rw [KC_219]; rfl
def RC_219 : Nat → Nat → Option Nat := g_up RC_218 86 1 (some 88)
theorem RR_219 (L : Nat) (xs : Nat → Int32) : (MC_219 L xs).2.2.2 = RC_219 := mR_Rr (RR_218 L xs)
theorem II_219 (L : Nat) (xs : Nat → Int32) : ∀ i, i ≠ 0 → (MC_219 L xs).2.1 i = IC_218 i := mR_In (II_218 L xs)
theorem LL_219 (L : Nat) (xs : Nat → Int32) : ∀ i k, (MC_219 L xs).2.2.1 i k = 0 := mR_Ln (LL_218 L xs)
def MC_220 (L : Nat) (xs : Nat → Int32) : gM := nw (20, 7) (MC_219 L xs)
theorem NW_220 (L : Nat) (xs : Nat → Int32) : nw (20, 7) (MC_219 L xs) = MC_220 L xs := rfl
set_option maxRecDepth 20000 in
theorem KC_220 (L : Nat) (xs : Nat → Int32) : (MC_220 L xs).1 = (g_K0 L).take 90 := (nw_K _ (MC_219 L xs)).trans (by rw [KC_219]; rfl)
set_option maxRecDepth 20000 in
theorem LN_220 (L : Nat) (xs : Nat → Int32) : (MC_220 L xs).1.length = 90 := by rw [KC_220]; rfl
def RC_220 : Nat → Nat → Option Nat := g_row RC_219 89 (fun _ => none)
theorem RR_220 (L : Nat) (xs : Nat → Int32) : (MC_220 L xs).2.2.2 = RC_220 := nw_R (LN_219 L xs) (RR_219 L xs)
def IC_220 : Nat → Nat → Int32 := g_row IC_218 89 (fun _ => 0)
theorem II_220 (L : Nat) (xs : Nat → Int32) : ∀ i, i ≠ 0 → (MC_220 L xs).2.1 i = IC_220 i := nw_I (LN_219 L xs) (II_219 L xs)
theorem LL_220 (L : Nat) (xs : Nat → Int32) : ∀ i k, (MC_220 L xs).2.2.1 i k = 0 := nw_L (LL_219 L xs)
def MC_221 (L : Nat) (xs : Nat → Int32) : gM := mR (MC_220 L xs) 86 2 (some 89)
set_option maxRecDepth 20000 in
theorem ST_221 (L : Nat) (xs : Nat → Int32) : pR 8 (MC_220 L xs) (some 86) 2 (some 89) = some (MC_221 L xs) := pR_of (by unfold g_k; rw [KC_220]; rfl)
theorem KC_221 (L : Nat) (xs : Nat → Int32) : (MC_221 L xs).1 = (g_K0 L).take 90 := (mR_K (MC_220 L xs) _ _ _).trans (KC_220 L xs)
set_option maxRecDepth 20000 in
theorem LN_221 (L : Nat) (xs : Nat → Int32) : (MC_221 L xs).1.length = 90 := by rw [KC_221]; rfl
def RC_221 : Nat → Nat → Option Nat := g_up RC_220 86 2 (some 89)
theorem RR_221 (L : Nat) (xs : Nat → Int32) : (MC_221 L xs).2.2.2 = RC_221 := mR_Rr (RR_220 L xs)
theorem II_221 (L : Nat) (xs : Nat → Int32) : ∀ i, i ≠ 0 → (MC_221 L xs).2.1 i = IC_220 i := mR_In (II_220 L xs)
theorem LL_221 (L : Nat) (xs : Nat → Int32) : ∀ i k, (MC_221 L xs).2.2.1 i k = 0 := mR_Ln (LL_220 L xs)
def MC_222 (L : Nat) (xs : Nat → Int32) : gM := nw (20, 7) (MC_221 L xs)
theorem NW_222 (L : Nat) (xs : Nat → Int32) : nw (20, 7) (MC_221 L xs) = MC_222 L xs := rfl
set_option maxRecDepth 20000 in
theorem KC_222 (L : Nat) (xs : Nat → Int32) : (MC_222 L xs).1 = (g_K0 L).take 91 := (nw_K _ (MC_221 L xs)).trans (by rw [KC_221]; rfl)
set_option maxRecDepth 20000 in
theorem LN_222 (L : Nat) (xs : Nat → Int32) : (MC_222 L xs).1.length = 91 := by rw [KC_222]; rfl
def RC_222 : Nat → Nat → Option Nat := g_row RC_221 90 (fun _ => none)
theorem RR_222 (L : Nat) (xs : Nat → Int32) : (MC_222 L xs).2.2.2 = RC_222 := nw_R (LN_221 L xs) (RR_221 L xs)
def IC_222 : Nat → Nat → Int32 := g_row IC_220 90 (fun _ => 0)
theorem II_222 (L : Nat) (xs : Nat → Int32) : ∀ i, i ≠ 0 → (MC_222 L xs).2.1 i = IC_222 i := nw_I (LN_221 L xs) (II_221 L xs)
theorem LL_222 (L : Nat) (xs : Nat → Int32) : ∀ i k, (MC_222 L xs).2.2.1 i k = 0 := nw_L (LL_221 L xs)
def MC_223 (L : Nat) (xs : Nat → Int32) : gM := mR (MC_222 L xs) 86 3 (some 90)
set_option maxRecDepth 20000 in
theorem ST_223 (L : Nat) (xs : Nat → Int32) : pR 8 (MC_222 L xs) (some 86) 3 (some 90) = some (MC_223 L xs) := pR_of (by unfold g_k; rw [KC_222]; rfl)
theorem KC_223 (L : Nat) (xs : Nat → Int32) : (MC_223 L xs).1 = (g_K0 L).take 91 := (mR_K (MC_222 L xs) _ _ _).trans (KC_222 L xs)
set_option maxRecDepth 20000 in
theorem LN_223 (L : Nat) (xs : Nat → Int32) : (MC_223 L xs).1.length = 91 := by rw [KC_223]; rfl
def RC_223 : Nat → Nat → Option Nat := g_up RC_222 86 3 (some 90)
theorem RR_223 (L : Nat) (xs : Nat → Int32) : (MC_223 L xs).2.2.2 = RC_223 := mR_Rr (RR_222 L xs)
theorem II_223 (L : Nat) (xs : Nat → Int32) : ∀ i, i ≠ 0 → (MC_223 L xs).2.1 i = IC_222 i := mR_In (II_222 L xs)
theorem LL_223 (L : Nat) (xs : Nat → Int32) : ∀ i k, (MC_223 L xs).2.2.1 i k = 0 := mR_Ln (LL_222 L xs)
def MC_224 (L : Nat) (xs : Nat → Int32) : gM := mI (MC_223 L xs) 86 4 (0 : Int32)
set_option maxRecDepth 20000 in
theorem ST_224 (L : Nat) (xs : Nat → Int32) : pI 8 (MC_223 L xs) (some 86) 4 (0 : Int32) = some (MC_224 L xs) := pI_of (by unfold g_k; rw [KC_223]; rfl)
theorem KC_224 (L : Nat) (xs : Nat → Int32) : (MC_224 L xs).1 = (g_K0 L).take 91 := (mI_K (MC_223 L xs) _ _ _).trans (KC_223 L xs)
set_option maxRecDepth 20000 in
theorem LN_224 (L : Nat) (xs : Nat → Int32) : (MC_224 L xs).1.length = 91 := by rw [KC_224]; rfl
theorem RR_224 (L : Nat) (xs : Nat → Int32) : (MC_224 L xs).2.2.2 = RC_223 := (mI_Rn (MC_223 L xs) _ _ _).trans (RR_223 L xs)
def IC_224 : Nat → Nat → Int32 := g_up IC_222 86 4 (0)
theorem II_224 (L : Nat) (xs : Nat → Int32) : ∀ i, i ≠ 0 → (MC_224 L xs).2.1 i = IC_224 i := mI_I (II_223 L xs)
theorem LL_224 (L : Nat) (xs : Nat → Int32) : ∀ i k, (MC_224 L xs).2.2.1 i k = 0 := mI_Ln (LL_223 L xs)
def MC_225 (L : Nat) (xs : Nat → Int32) : gM := mI (MC_224 L xs) 86 5 (0 : Int32)
set_option maxRecDepth 20000 in
theorem ST_225 (L : Nat) (xs : Nat → Int32) : pI 8 (MC_224 L xs) (some 86) 5 (0 : Int32) = some (MC_225 L xs) := pI_of (by unfold g_k; rw [KC_224]; rfl)
theorem KC_225 (L : Nat) (xs : Nat → Int32) : (MC_225 L xs).1 = (g_K0 L).take 91 := (mI_K (MC_224 L xs) _ _ _).trans (KC_224 L xs)
set_option maxRecDepth 20000 in
theorem LN_225 (L : Nat) (xs : Nat → Int32) : (MC_225 L xs).1.length = 91 := by rw [KC_225]; rfl
theorem RR_225 (L : Nat) (xs : Nat → Int32) : (MC_225 L xs).2.2.2 = RC_223 := (mI_Rn (MC_224 L xs) _ _ _).trans (RR_224 L xs)
def IC_225 : Nat → Nat → Int32 := g_up IC_224 86 5 (0)
theorem II_225 (L : Nat) (xs : Nat → Int32) : ∀ i, i ≠ 0 → (MC_225 L xs).2.1 i = IC_225 i := mI_I (II_224 L xs)
theorem LL_225 (L : Nat) (xs : Nat → Int32) : ∀ i k, (MC_225 L xs).2.2.1 i k = 0 := mI_Ln (LL_224 L xs)
def MC_226 (L : Nat) (xs : Nat → Int32) : gM := mI (MC_225 L xs) 86 6 (0 : Int32)
set_option maxRecDepth 20000 in
theorem ST_226 (L : Nat) (xs : Nat → Int32) : pI 8 (MC_225 L xs) (some 86) 6 (0 : Int32) = some (MC_226 L xs) := pI_of (by unfold g_k; rw [KC_225]; rfl)
theorem KC_226 (L : Nat) (xs : Nat → Int32) : (MC_226 L xs).1 = (g_K0 L).take 91 := (mI_K (MC_225 L xs) _ _ _).trans (KC_225 L xs)
set_option maxRecDepth 20000 in
theorem LN_226 (L : Nat) (xs : Nat → Int32) : (MC_226 L xs).1.length = 91 := by rw [KC_226]; rfl
theorem RR_226 (L : Nat) (xs : Nat → Int32) : (MC_226 L xs).2.2.2 = RC_223 := (mI_Rn (MC_225 L xs) _ _ _).trans (RR_225 L xs)
def IC_226 : Nat → Nat → Int32 := g_up IC_225 86 6 (0)
theorem II_226 (L : Nat) (xs : Nat → Int32) : ∀ i, i ≠ 0 → (MC_226 L xs).2.1 i = IC_226 i := mI_I (II_225 L xs)
theorem LL_226 (L : Nat) (xs : Nat → Int32) : ∀ i k, (MC_226 L xs).2.2.1 i k = 0 := mI_Ln (LL_225 L xs)
def MC_227 (L : Nat) (xs : Nat → Int32) : gM := mR (MC_226 L xs) 20 13 (some 86)
set_option maxRecDepth 20000 in
theorem ST_227 (L : Nat) (xs : Nat → Int32) : sR 24 (MC_226 L xs) (some 20) (13 : Int32) (some 86) = some (MC_227 L xs) := sR_of (n := 20) (by unfold g_k; rw [KC_226]; rfl) (by unfold g_k; rw [KC_226]; rfl) (by decide) (by decide)
theorem KC_227 (L : Nat) (xs : Nat → Int32) : (MC_227 L xs).1 = (g_K0 L).take 91 := (mR_K (MC_226 L xs) _ _ _).trans (KC_226 L xs)
set_option maxRecDepth 20000 in
theorem LN_227 (L : Nat) (xs : Nat → Int32) : (MC_227 L xs).1.length = 91 := by rw [KC_227]; rfl
def RC_227 : Nat → Nat → Option Nat := g_up RC_223 20 13 (some 86)
theorem RR_227 (L : Nat) (xs : Nat → Int32) : (MC_227 L xs).2.2.2 = RC_227 := mR_Rr (RR_226 L xs)
theorem II_227 (L : Nat) (xs : Nat → Int32) : ∀ i, i ≠ 0 → (MC_227 L xs).2.1 i = IC_226 i := mR_In (II_226 L xs)
theorem LL_227 (L : Nat) (xs : Nat → Int32) : ∀ i k, (MC_227 L xs).2.2.1 i k = 0 := mR_Ln (LL_226 L xs)
set_option maxRecDepth 20000 in
theorem GR_15 (L : Nat) (xs : Nat → Int32) : gR 4 (MC_227 L xs) (some 19) 0 = some (some 20) := gR_of (by unfold g_k; rw [KC_227]; rfl) (by rw [RR_227]; decide +kernel)
def MC_228 (L : Nat) (xs : Nat → Int32) : gM := nw (8, 0) (MC_227 L xs)
theorem NW_228 (L : Nat) (xs : Nat → Int32) : nw (8, 0) (MC_227 L xs) = MC_228 L xs := rfl
set_option maxRecDepth 20000 in
theorem KC_228 (L : Nat) (xs : Nat → Int32) : (MC_228 L xs).1 = (g_K0 L).take 92 := (nw_K _ (MC_227 L xs)).trans (by rw [KC_227]; rfl)
set_option maxRecDepth 20000 in
theorem LN_228 (L : Nat) (xs : Nat → Int32) : (MC_228 L xs).1.length = 92 := by rw [KC_228]; rfl
def RC_228 : Nat → Nat → Option Nat := g_row RC_227 91 (fun _ => none)
theorem RR_228 (L : Nat) (xs : Nat → Int32) : (MC_228 L xs).2.2.2 = RC_228 := nw_R (LN_227 L xs) (RR_227 L xs)
def IC_228 : Nat → Nat → Int32 := g_row IC_226 91 (fun _ => 0)
theorem II_228 (L : Nat) (xs : Nat → Int32) : ∀ i, i ≠ 0 → (MC_228 L xs).2.1 i = IC_228 i := nw_I (LN_227 L xs) (II_227 L xs)
theorem LL_228 (L : Nat) (xs : Nat → Int32) : ∀ i k, (MC_228 L xs).2.2.1 i k = 0 := nw_L (LL_227 L xs)
def MC_229 (L : Nat) (xs : Nat → Int32) : gM := nw (20, 49) (MC_228 L xs)
theorem NW_229 (L : Nat) (xs : Nat → Int32) : nw (20, 49) (MC_228 L xs) = MC_229 L xs := rfl
set_option maxRecDepth 20000 in
theorem KC_229 (L : Nat) (xs : Nat → Int32) : (MC_229 L xs).1 = (g_K0 L).take 93 := (nw_K _ (MC_228 L xs)).trans (by rw [KC_228]; rfl)
set_option maxRecDepth 20000 in
theorem LN_229 (L : Nat) (xs : Nat → Int32) : (MC_229 L xs).1.length = 93 := by rw [KC_229]; rfl
def RC_229 : Nat → Nat → Option Nat := g_row RC_228 92 (fun _ => none)
theorem RR_229 (L : Nat) (xs : Nat → Int32) : (MC_229 L xs).2.2.2 = RC_229 := nw_R (LN_228 L xs) (RR_228 L xs)
def IC_229 : Nat → Nat → Int32 := g_row IC_228 92 (fun _ => 0)
theorem II_229 (L : Nat) (xs : Nat → Int32) : ∀ i, i ≠ 0 → (MC_229 L xs).2.1 i = IC_229 i := nw_I (LN_228 L xs) (II_228 L xs)
theorem LL_229 (L : Nat) (xs : Nat → Int32) : ∀ i k, (MC_229 L xs).2.2.1 i k = 0 := nw_L (LL_228 L xs)
def MC_230 (L : Nat) (xs : Nat → Int32) : gM := mR (MC_229 L xs) 91 0 (some 92)
set_option maxRecDepth 20000 in
theorem ST_230 (L : Nat) (xs : Nat → Int32) : pR 8 (MC_229 L xs) (some 91) 0 (some 92) = some (MC_230 L xs) := pR_of (by unfold g_k; rw [KC_229]; rfl)
theorem KC_230 (L : Nat) (xs : Nat → Int32) : (MC_230 L xs).1 = (g_K0 L).take 93 := (mR_K (MC_229 L xs) _ _ _).trans (KC_229 L xs)
set_option maxRecDepth 20000 in
theorem LN_230 (L : Nat) (xs : Nat → Int32) : (MC_230 L xs).1.length = 93 := by rw [KC_230]; rfl
def RC_230 : Nat → Nat → Option Nat := g_up RC_229 91 0 (some 92)
theorem RR_230 (L : Nat) (xs : Nat → Int32) : (MC_230 L xs).2.2.2 = RC_230 := mR_Rr (RR_229 L xs)
theorem II_230 (L : Nat) (xs : Nat → Int32) : ∀ i, i ≠ 0 → (MC_230 L xs).2.1 i = IC_229 i := mR_In (II_229 L xs)
theorem LL_230 (L : Nat) (xs : Nat → Int32) : ∀ i k, (MC_230 L xs).2.2.1 i k = 0 := mR_Ln (LL_229 L xs)
def MC_231 (L : Nat) (xs : Nat → Int32) : gM := nw (20, 49) (MC_230 L xs)
theorem NW_231 (L : Nat) (xs : Nat → Int32) : nw (20, 49) (MC_230 L xs) = MC_231 L xs := rfl
set_option maxRecDepth 20000 in
theorem KC_231 (L : Nat) (xs : Nat → Int32) : (MC_231 L xs).1 = (g_K0 L).take 94 := (nw_K _ (MC_230 L xs)).trans (by rw [KC_230]; rfl)
set_option maxRecDepth 20000 in
theorem LN_231 (L : Nat) (xs : Nat → Int32) : (MC_231 L xs).1.length = 94 := by rw [KC_231]; rfl
def RC_231 : Nat → Nat → Option Nat := g_row RC_230 93 (fun _ => none)
theorem RR_231 (L : Nat) (xs : Nat → Int32) : (MC_231 L xs).2.2.2 = RC_231 := nw_R (LN_230 L xs) (RR_230 L xs)
def IC_231 : Nat → Nat → Int32 := g_row IC_229 93 (fun _ => 0)
theorem II_231 (L : Nat) (xs : Nat → Int32) : ∀ i, i ≠ 0 → (MC_231 L xs).2.1 i = IC_231 i := nw_I (LN_230 L xs) (II_230 L xs)
theorem LL_231 (L : Nat) (xs : Nat → Int32) : ∀ i k, (MC_231 L xs).2.2.1 i k = 0 := nw_L (LL_230 L xs)
def MC_232 (L : Nat) (xs : Nat → Int32) : gM := mR (MC_231 L xs) 91 1 (some 93)
set_option maxRecDepth 20000 in
theorem ST_232 (L : Nat) (xs : Nat → Int32) : pR 8 (MC_231 L xs) (some 91) 1 (some 93) = some (MC_232 L xs) := pR_of (by unfold g_k; rw [KC_231]; rfl)
theorem KC_232 (L : Nat) (xs : Nat → Int32) : (MC_232 L xs).1 = (g_K0 L).take 94 := (mR_K (MC_231 L xs) _ _ _).trans (KC_231 L xs)
set_option maxRecDepth 20000 in
theorem LN_232 (L : Nat) (xs : Nat → Int32) : (MC_232 L xs).1.length = 94 := by rw [KC_232]; rfl
def RC_232 : Nat → Nat → Option Nat := g_up RC_231 91 1 (some 93)
theorem RR_232 (L : Nat) (xs : Nat → Int32) : (MC_232 L xs).2.2.2 = RC_232 := mR_Rr (RR_231 L xs)
theorem II_232 (L : Nat) (xs : Nat → Int32) : ∀ i, i ≠ 0 → (MC_232 L xs).2.1 i = IC_231 i := mR_In (II_231 L xs)
theorem LL_232 (L : Nat) (xs : Nat → Int32) : ∀ i k, (MC_232 L xs).2.2.1 i k = 0 := mR_Ln (LL_231 L xs)
def MC_233 (L : Nat) (xs : Nat → Int32) : gM := nw (20, 7) (MC_232 L xs)
theorem NW_233 (L : Nat) (xs : Nat → Int32) : nw (20, 7) (MC_232 L xs) = MC_233 L xs := rfl
set_option maxRecDepth 20000 in
theorem KC_233 (L : Nat) (xs : Nat → Int32) : (MC_233 L xs).1 = (g_K0 L).take 95 := (nw_K _ (MC_232 L xs)).trans (by rw [KC_232]; rfl)
set_option maxRecDepth 20000 in
theorem LN_233 (L : Nat) (xs : Nat → Int32) : (MC_233 L xs).1.length = 95 := by rw [KC_233]; rfl
def RC_233 : Nat → Nat → Option Nat := g_row RC_232 94 (fun _ => none)
theorem RR_233 (L : Nat) (xs : Nat → Int32) : (MC_233 L xs).2.2.2 = RC_233 := nw_R (LN_232 L xs) (RR_232 L xs)
def IC_233 : Nat → Nat → Int32 := g_row IC_231 94 (fun _ => 0)
theorem II_233 (L : Nat) (xs : Nat → Int32) : ∀ i, i ≠ 0 → (MC_233 L xs).2.1 i = IC_233 i := nw_I (LN_232 L xs) (II_232 L xs)
theorem LL_233 (L : Nat) (xs : Nat → Int32) : ∀ i k, (MC_233 L xs).2.2.1 i k = 0 := nw_L (LL_232 L xs)
def MC_234 (L : Nat) (xs : Nat → Int32) : gM := mR (MC_233 L xs) 91 2 (some 94)
set_option maxRecDepth 20000 in
theorem ST_234 (L : Nat) (xs : Nat → Int32) : pR 8 (MC_233 L xs) (some 91) 2 (some 94) = some (MC_234 L xs) := pR_of (by unfold g_k; rw [KC_233]; rfl)
theorem KC_234 (L : Nat) (xs : Nat → Int32) : (MC_234 L xs).1 = (g_K0 L).take 95 := (mR_K (MC_233 L xs) _ _ _).trans (KC_233 L xs)
set_option maxRecDepth 20000 in
theorem LN_234 (L : Nat) (xs : Nat → Int32) : (MC_234 L xs).1.length = 95 := by rw [KC_234]; rfl
def RC_234 : Nat → Nat → Option Nat := g_up RC_233 91 2 (some 94)
theorem RR_234 (L : Nat) (xs : Nat → Int32) : (MC_234 L xs).2.2.2 = RC_234 := mR_Rr (RR_233 L xs)
theorem II_234 (L : Nat) (xs : Nat → Int32) : ∀ i, i ≠ 0 → (MC_234 L xs).2.1 i = IC_233 i := mR_In (II_233 L xs)
theorem LL_234 (L : Nat) (xs : Nat → Int32) : ∀ i k, (MC_234 L xs).2.2.1 i k = 0 := mR_Ln (LL_233 L xs)
def MC_235 (L : Nat) (xs : Nat → Int32) : gM := nw (20, 7) (MC_234 L xs)
theorem NW_235 (L : Nat) (xs : Nat → Int32) : nw (20, 7) (MC_234 L xs) = MC_235 L xs := rfl
set_option maxRecDepth 20000 in
theorem KC_235 (L : Nat) (xs : Nat → Int32) : (MC_235 L xs).1 = (g_K0 L).take 96 := (nw_K _ (MC_234 L xs)).trans (by rw [KC_234]; rfl)
set_option maxRecDepth 20000 in
theorem LN_235 (L : Nat) (xs : Nat → Int32) : (MC_235 L xs).1.length = 96 := by rw [KC_235]; rfl
def RC_235 : Nat → Nat → Option Nat := g_row RC_234 95 (fun _ => none)
theorem RR_235 (L : Nat) (xs : Nat → Int32) : (MC_235 L xs).2.2.2 = RC_235 := nw_R (LN_234 L xs) (RR_234 L xs)
def IC_235 : Nat → Nat → Int32 := g_row IC_233 95 (fun _ => 0)
theorem II_235 (L : Nat) (xs : Nat → Int32) : ∀ i, i ≠ 0 → (MC_235 L xs).2.1 i = IC_235 i := nw_I (LN_234 L xs) (II_234 L xs)
theorem LL_235 (L : Nat) (xs : Nat → Int32) : ∀ i k, (MC_235 L xs).2.2.1 i k = 0 := nw_L (LL_234 L xs)
def MC_236 (L : Nat) (xs : Nat → Int32) : gM := mR (MC_235 L xs) 91 3 (some 95)
set_option maxRecDepth 20000 in
theorem ST_236 (L : Nat) (xs : Nat → Int32) : pR 8 (MC_235 L xs) (some 91) 3 (some 95) = some (MC_236 L xs) := pR_of (by unfold g_k; rw [KC_235]; rfl)
theorem KC_236 (L : Nat) (xs : Nat → Int32) : (MC_236 L xs).1 = (g_K0 L).take 96 := (mR_K (MC_235 L xs) _ _ _).trans (KC_235 L xs)
set_option maxRecDepth 20000 in
theorem LN_236 (L : Nat) (xs : Nat → Int32) : (MC_236 L xs).1.length = 96 := by rw [KC_236]; rfl
def RC_236 : Nat → Nat → Option Nat := g_up RC_235 91 3 (some 95)
theorem RR_236 (L : Nat) (xs : Nat → Int32) : (MC_236 L xs).2.2.2 = RC_236 := mR_Rr (RR_235 L xs)
theorem II_236 (L : Nat) (xs : Nat → Int32) : ∀ i, i ≠ 0 → (MC_236 L xs).2.1 i = IC_235 i := mR_In (II_235 L xs)
theorem LL_236 (L : Nat) (xs : Nat → Int32) : ∀ i k, (MC_236 L xs).2.2.1 i k = 0 := mR_Ln (LL_235 L xs)
def MC_237 (L : Nat) (xs : Nat → Int32) : gM := mI (MC_236 L xs) 91 4 (0 : Int32)
set_option maxRecDepth 20000 in
theorem ST_237 (L : Nat) (xs : Nat → Int32) : pI 8 (MC_236 L xs) (some 91) 4 (0 : Int32) = some (MC_237 L xs) := pI_of (by unfold g_k; rw [KC_236]; rfl)
theorem KC_237 (L : Nat) (xs : Nat → Int32) : (MC_237 L xs).1 = (g_K0 L).take 96 := (mI_K (MC_236 L xs) _ _ _).trans (KC_236 L xs)
set_option maxRecDepth 20000 in
theorem LN_237 (L : Nat) (xs : Nat → Int32) : (MC_237 L xs).1.length = 96 := by rw [KC_237]; rfl
theorem RR_237 (L : Nat) (xs : Nat → Int32) : (MC_237 L xs).2.2.2 = RC_236 := (mI_Rn (MC_236 L xs) _ _ _).trans (RR_236 L xs)
def IC_237 : Nat → Nat → Int32 := g_up IC_235 91 4 (0)
theorem II_237 (L : Nat) (xs : Nat → Int32) : ∀ i, i ≠ 0 → (MC_237 L xs).2.1 i = IC_237 i := mI_I (II_236 L xs)
theorem LL_237 (L : Nat) (xs : Nat → Int32) : ∀ i k, (MC_237 L xs).2.2.1 i k = 0 := mI_Ln (LL_236 L xs)
def MC_238 (L : Nat) (xs : Nat → Int32) : gM := mI (MC_237 L xs) 91 5 (0 : Int32)
set_option maxRecDepth 20000 in
theorem ST_238 (L : Nat) (xs : Nat → Int32) : pI 8 (MC_237 L xs) (some 91) 5 (0 : Int32) = some (MC_238 L xs) := pI_of (by unfold g_k; rw [KC_237]; rfl)
theorem KC_238 (L : Nat) (xs : Nat → Int32) : (MC_238 L xs).1 = (g_K0 L).take 96 := (mI_K (MC_237 L xs) _ _ _).trans (KC_237 L xs)
set_option maxRecDepth 20000 in
theorem LN_238 (L : Nat) (xs : Nat → Int32) : (MC_238 L xs).1.length = 96 := by rw [KC_238]; rfl
theorem RR_238 (L : Nat) (xs : Nat → Int32) : (MC_238 L xs).2.2.2 = RC_236 := (mI_Rn (MC_237 L xs) _ _ _).trans (RR_237 L xs)
def IC_238 : Nat → Nat → Int32 := g_up IC_237 91 5 (0)
theorem II_238 (L : Nat) (xs : Nat → Int32) : ∀ i, i ≠ 0 → (MC_238 L xs).2.1 i = IC_238 i := mI_I (II_237 L xs)
theorem LL_238 (L : Nat) (xs : Nat → Int32) : ∀ i k, (MC_238 L xs).2.2.1 i k = 0 := mI_Ln (LL_237 L xs)
def MC_239 (L : Nat) (xs : Nat → Int32) : gM := mI (MC_238 L xs) 91 6 (0 : Int32)
set_option maxRecDepth 20000 in
theorem ST_239 (L : Nat) (xs : Nat → Int32) : pI 8 (MC_238 L xs) (some 91) 6 (0 : Int32) = some (MC_239 L xs) := pI_of (by unfold g_k; rw [KC_238]; rfl)
theorem KC_239 (L : Nat) (xs : Nat → Int32) : (MC_239 L xs).1 = (g_K0 L).take 96 := (mI_K (MC_238 L xs) _ _ _).trans (KC_238 L xs)
set_option maxRecDepth 20000 in
theorem LN_239 (L : Nat) (xs : Nat → Int32) : (MC_239 L xs).1.length = 96 := by rw [KC_239]; rfl
theorem RR_239 (L : Nat) (xs : Nat → Int32) : (MC_239 L xs).2.2.2 = RC_236 := (mI_Rn (MC_238 L xs) _ _ _).trans (RR_238 L xs)
def IC_239 : Nat → Nat → Int32 := g_up IC_238 91 6 (0)
theorem II_239 (L : Nat) (xs : Nat → Int32) : ∀ i, i ≠ 0 → (MC_239 L xs).2.1 i = IC_239 i := mI_I (II_238 L xs)
theorem LL_239 (L : Nat) (xs : Nat → Int32) : ∀ i k, (MC_239 L xs).2.2.1 i k = 0 := mI_Ln (LL_238 L xs)
def MC_240 (L : Nat) (xs : Nat → Int32) : gM := mR (MC_239 L xs) 20 14 (some 91)
set_option maxRecDepth 20000 in
theorem ST_240 (L : Nat) (xs : Nat → Int32) : sR 24 (MC_239 L xs) (some 20) (14 : Int32) (some 91) = some (MC_240 L xs) := sR_of (n := 20) (by unfold g_k; rw [KC_239]; rfl) (by unfold g_k; rw [KC_239]; rfl) (by decide) (by decide)
theorem KC_240 (L : Nat) (xs : Nat → Int32) : (MC_240 L xs).1 = (g_K0 L).take 96 := (mR_K (MC_239 L xs) _ _ _).trans (KC_239 L xs)
set_option maxRecDepth 20000 in
theorem LN_240 (L : Nat) (xs : Nat → Int32) : (MC_240 L xs).1.length = 96 := by rw [KC_240]; rfl
def RC_240 : Nat → Nat → Option Nat := g_up RC_236 20 14 (some 91)
theorem RR_240 (L : Nat) (xs : Nat → Int32) : (MC_240 L xs).2.2.2 = RC_240 := mR_Rr (RR_239 L xs)
theorem II_240 (L : Nat) (xs : Nat → Int32) : ∀ i, i ≠ 0 → (MC_240 L xs).2.1 i = IC_239 i := mR_In (II_239 L xs)
theorem LL_240 (L : Nat) (xs : Nat → Int32) : ∀ i k, (MC_240 L xs).2.2.1 i k = 0 := mR_Ln (LL_239 L xs)
set_option maxRecDepth 20000 in
theorem GR_16 (L : Nat) (xs : Nat → Int32) : gR 4 (MC_240 L xs) (some 19) 0 = some (some 20) := gR_of (by unfold g_k; rw [KC_240]; rfl) (by rw [RR_240]; decide +kernel)
def MC_241 (L : Nat) (xs : Nat → Int32) : gM := nw (8, 0) (MC_240 L xs)
theorem NW_241 (L : Nat) (xs : Nat → Int32) : nw (8, 0) (MC_240 L xs) = MC_241 L xs := rfl
set_option maxRecDepth 20000 in
theorem KC_241 (L : Nat) (xs : Nat → Int32) : (MC_241 L xs).1 = (g_K0 L).take 97 := (nw_K _ (MC_240 L xs)).trans (by rw [KC_240]; rfl)
set_option maxRecDepth 20000 in
theorem LN_241 (L : Nat) (xs : Nat → Int32) : (MC_241 L xs).1.length = 97 := by rw [KC_241]; rfl
def RC_241 : Nat → Nat → Option Nat := g_row RC_240 96 (fun _ => none)
theorem RR_241 (L : Nat) (xs : Nat → Int32) : (MC_241 L xs).2.2.2 = RC_241 := nw_R (LN_240 L xs) (RR_240 L xs)
def IC_241 : Nat → Nat → Int32 := g_row IC_239 96 (fun _ => 0)
theorem II_241 (L : Nat) (xs : Nat → Int32) : ∀ i, i ≠ 0 → (MC_241 L xs).2.1 i = IC_241 i := nw_I (LN_240 L xs) (II_240 L xs)
theorem LL_241 (L : Nat) (xs : Nat → Int32) : ∀ i k, (MC_241 L xs).2.2.1 i k = 0 := nw_L (LL_240 L xs)
def MC_242 (L : Nat) (xs : Nat → Int32) : gM := nw (20, 49) (MC_241 L xs)
theorem NW_242 (L : Nat) (xs : Nat → Int32) : nw (20, 49) (MC_241 L xs) = MC_242 L xs := rfl
set_option maxRecDepth 20000 in
theorem KC_242 (L : Nat) (xs : Nat → Int32) : (MC_242 L xs).1 = (g_K0 L).take 98 := (nw_K _ (MC_241 L xs)).trans (by rw [KC_241]; rfl)
set_option maxRecDepth 20000 in
theorem LN_242 (L : Nat) (xs : Nat → Int32) : (MC_242 L xs).1.length = 98 := by rw [KC_242]; rfl
def RC_242 : Nat → Nat → Option Nat := g_row RC_241 97 (fun _ => none)
theorem RR_242 (L : Nat) (xs : Nat → Int32) : (MC_242 L xs).2.2.2 = RC_242 := nw_R (LN_241 L xs) (RR_241 L xs)
def IC_242 : Nat → Nat → Int32 := g_row IC_241 97 (fun _ => 0)
theorem II_242 (L : Nat) (xs : Nat → Int32) : ∀ i, i ≠ 0 → (MC_242 L xs).2.1 i = IC_242 i := nw_I (LN_241 L xs) (II_241 L xs)
theorem LL_242 (L : Nat) (xs : Nat → Int32) : ∀ i k, (MC_242 L xs).2.2.1 i k = 0 := nw_L (LL_241 L xs)
def MC_243 (L : Nat) (xs : Nat → Int32) : gM := mR (MC_242 L xs) 96 0 (some 97)
set_option maxRecDepth 20000 in
theorem ST_243 (L : Nat) (xs : Nat → Int32) : pR 8 (MC_242 L xs) (some 96) 0 (some 97) = some (MC_243 L xs) := pR_of (by unfold g_k; rw [KC_242]; rfl)
theorem KC_243 (L : Nat) (xs : Nat → Int32) : (MC_243 L xs).1 = (g_K0 L).take 98 := (mR_K (MC_242 L xs) _ _ _).trans (KC_242 L xs)
set_option maxRecDepth 20000 in
theorem LN_243 (L : Nat) (xs : Nat → Int32) : (MC_243 L xs).1.length = 98 := by rw [KC_243]; rfl
def RC_243 : Nat → Nat → Option Nat := g_up RC_242 96 0 (some 97)
theorem RR_243 (L : Nat) (xs : Nat → Int32) : (MC_243 L xs).2.2.2 = RC_243 := mR_Rr (RR_242 L xs)
theorem II_243 (L : Nat) (xs : Nat → Int32) : ∀ i, i ≠ 0 → (MC_243 L xs).2.1 i = IC_242 i := mR_In (II_242 L xs)
theorem LL_243 (L : Nat) (xs : Nat → Int32) : ∀ i k, (MC_243 L xs).2.2.1 i k = 0 := mR_Ln (LL_242 L xs)
def MC_244 (L : Nat) (xs : Nat → Int32) : gM := nw (20, 49) (MC_243 L xs)
theorem NW_244 (L : Nat) (xs : Nat → Int32) : nw (20, 49) (MC_243 L xs) = MC_244 L xs := rfl
set_option maxRecDepth 20000 in
theorem KC_244 (L : Nat) (xs : Nat → Int32) : (MC_244 L xs).1 = (g_K0 L).take 99 := (nw_K _ (MC_243 L xs)).trans (by rw [KC_243]; rfl)
set_option maxRecDepth 20000 in
theorem LN_244 (L : Nat) (xs : Nat → Int32) : (MC_244 L xs).1.length = 99 := by rw [KC_244]; rfl
def RC_244 : Nat → Nat → Option Nat := g_row RC_243 98 (fun _ => none)
theorem RR_244 (L : Nat) (xs : Nat → Int32) : (MC_244 L xs).2.2.2 = RC_244 := nw_R (LN_243 L xs) (RR_243 L xs)
def IC_244 : Nat → Nat → Int32 := g_row IC_242 98 (fun _ => 0)
theorem II_244 (L : Nat) (xs : Nat → Int32) : ∀ i, i ≠ 0 → (MC_244 L xs).2.1 i = IC_244 i := nw_I (LN_243 L xs) (II_243 L xs)
theorem LL_244 (L : Nat) (xs : Nat → Int32) : ∀ i k, (MC_244 L xs).2.2.1 i k = 0 := nw_L (LL_243 L xs)
def MC_245 (L : Nat) (xs : Nat → Int32) : gM := mR (MC_244 L xs) 96 1 (some 98)
set_option maxRecDepth 20000 in
theorem ST_245 (L : Nat) (xs : Nat → Int32) : pR 8 (MC_244 L xs) (some 96) 1 (some 98) = some (MC_245 L xs) := pR_of (by unfold g_k; rw [KC_244]; rfl)
theorem KC_245 (L : Nat) (xs : Nat → Int32) : (MC_245 L xs).1 = (g_K0 L).take 99 := (mR_K (MC_244 L xs) _ _ _).trans (KC_244 L xs)
set_option maxRecDepth 20000 in
theorem LN_245 (L : Nat) (xs : Nat → Int32) : (MC_245 L xs).1.length = 99 := by rw [KC_245]; rfl
def RC_245 : Nat → Nat → Option Nat := g_up RC_244 96 1 (some 98)
theorem RR_245 (L : Nat) (xs : Nat → Int32) : (MC_245 L xs).2.2.2 = RC_245 := mR_Rr (RR_244 L xs)
theorem II_245 (L : Nat) (xs : Nat → Int32) : ∀ i, i ≠ 0 → (MC_245 L xs).2.1 i = IC_244 i := mR_In (II_244 L xs)
theorem LL_245 (L : Nat) (xs : Nat → Int32) : ∀ i k, (MC_245 L xs).2.2.1 i k = 0 := mR_Ln (LL_244 L xs)
def MC_246 (L : Nat) (xs : Nat → Int32) : gM := nw (20, 7) (MC_245 L xs)
theorem NW_246 (L : Nat) (xs : Nat → Int32) : nw (20, 7) (MC_245 L xs) = MC_246 L xs := rfl
set_option maxRecDepth 20000 in
theorem KC_246 (L : Nat) (xs : Nat → Int32) : (MC_246 L xs).1 = (g_K0 L).take 100 := (nw_K _ (MC_245 L xs)).trans (by rw [KC_245]; rfl)
set_option maxRecDepth 20000 in
theorem LN_246 (L : Nat) (xs : Nat → Int32) : (MC_246 L xs).1.length = 100 := by rw [KC_246]; rfl
def RC_246 : Nat → Nat → Option Nat := g_row RC_245 99 (fun _ => none)
theorem RR_246 (L : Nat) (xs : Nat → Int32) : (MC_246 L xs).2.2.2 = RC_246 := nw_R (LN_245 L xs) (RR_245 L xs)
def IC_246 : Nat → Nat → Int32 := g_row IC_244 99 (fun _ => 0)
theorem II_246 (L : Nat) (xs : Nat → Int32) : ∀ i, i ≠ 0 → (MC_246 L xs).2.1 i = IC_246 i := nw_I (LN_245 L xs) (II_245 L xs)
theorem LL_246 (L : Nat) (xs : Nat → Int32) : ∀ i k, (MC_246 L xs).2.2.1 i k = 0 := nw_L (LL_245 L xs)
def MC_247 (L : Nat) (xs : Nat → Int32) : gM := mR (MC_246 L xs) 96 2 (some 99)
set_option maxRecDepth 20000 in
theorem ST_247 (L : Nat) (xs : Nat → Int32) : pR 8 (MC_246 L xs) (some 96) 2 (some 99) = some (MC_247 L xs) := pR_of (by unfold g_k; rw [KC_246]; rfl)
theorem KC_247 (L : Nat) (xs : Nat → Int32) : (MC_247 L xs).1 = (g_K0 L).take 100 := (mR_K (MC_246 L xs) _ _ _).trans (KC_246 L xs)
set_option maxRecDepth 20000 in
theorem LN_247 (L : Nat) (xs : Nat → Int32) : (MC_247 L xs).1.length = 100 := by rw [KC_247]; rfl
def RC_247 : Nat → Nat → Option Nat := g_up RC_246 96 2 (some 99)
theorem RR_247 (L : Nat) (xs : Nat → Int32) : (MC_247 L xs).2.2.2 = RC_247 := mR_Rr (RR_246 L xs)
theorem II_247 (L : Nat) (xs : Nat → Int32) : ∀ i, i ≠ 0 → (MC_247 L xs).2.1 i = IC_246 i := mR_In (II_246 L xs)
theorem LL_247 (L : Nat) (xs : Nat → Int32) : ∀ i k, (MC_247 L xs).2.2.1 i k = 0 := mR_Ln (LL_246 L xs)
def MC_248 (L : Nat) (xs : Nat → Int32) : gM := nw (20, 7) (MC_247 L xs)
theorem NW_248 (L : Nat) (xs : Nat → Int32) : nw (20, 7) (MC_247 L xs) = MC_248 L xs := rfl
set_option maxRecDepth 20000 in
theorem KC_248 (L : Nat) (xs : Nat → Int32) : (MC_248 L xs).1 = (g_K0 L).take 101 := (nw_K _ (MC_247 L xs)).trans (by rw [KC_247]; rfl)
set_option maxRecDepth 20000 in
theorem LN_248 (L : Nat) (xs : Nat → Int32) : (MC_248 L xs).1.length = 101 := by rw [KC_248]; rfl
def RC_248 : Nat → Nat → Option Nat := g_row RC_247 100 (fun _ => none)
theorem RR_248 (L : Nat) (xs : Nat → Int32) : (MC_248 L xs).2.2.2 = RC_248 := nw_R (LN_247 L xs) (RR_247 L xs)
def IC_248 : Nat → Nat → Int32 := g_row IC_246 100 (fun _ => 0)
theorem II_248 (L : Nat) (xs : Nat → Int32) : ∀ i, i ≠ 0 → (MC_248 L xs).2.1 i = IC_248 i := nw_I (LN_247 L xs) (II_247 L xs)
theorem LL_248 (L : Nat) (xs : Nat → Int32) : ∀ i k, (MC_248 L xs).2.2.1 i k = 0 := nw_L (LL_247 L xs)
def MC_249 (L : Nat) (xs : Nat → Int32) : gM := mR (MC_248 L xs) 96 3 (some 100)
set_option maxRecDepth 20000 in
theorem ST_249 (L : Nat) (xs : Nat → Int32) : pR 8 (MC_248 L xs) (some 96) 3 (some 100) = some (MC_249 L xs) := pR_of (by unfold g_k; rw [KC_248]; rfl)
theorem KC_249 (L : Nat) (xs : Nat → Int32) : (MC_249 L xs).1 = (g_K0 L).take 101 := (mR_K (MC_248 L xs) _ _ _).trans (KC_248 L xs)
set_option maxRecDepth 20000 in
theorem LN_249 (L : Nat) (xs : Nat → Int32) : (MC_249 L xs).1.length = 101 := by rw [KC_249]; rfl
def RC_249 : Nat → Nat → Option Nat := g_up RC_248 96 3 (some 100)
theorem RR_249 (L : Nat) (xs : Nat → Int32) : (MC_249 L xs).2.2.2 = RC_249 := mR_Rr (RR_248 L xs)
theorem II_249 (L : Nat) (xs : Nat → Int32) : ∀ i, i ≠ 0 → (MC_249 L xs).2.1 i = IC_248 i := mR_In (II_248 L xs)
theorem LL_249 (L : Nat) (xs : Nat → Int32) : ∀ i k, (MC_249 L xs).2.2.1 i k = 0 := mR_Ln (LL_248 L xs)
def MC_250 (L : Nat) (xs : Nat → Int32) : gM := mI (MC_249 L xs) 96 4 (0 : Int32)
set_option maxRecDepth 20000 in
theorem ST_250 (L : Nat) (xs : Nat → Int32) : pI 8 (MC_249 L xs) (some 96) 4 (0 : Int32) = some (MC_250 L xs) := pI_of (by unfold g_k; rw [KC_249]; rfl)
theorem KC_250 (L : Nat) (xs : Nat → Int32) : (MC_250 L xs).1 = (g_K0 L).take 101 := (mI_K (MC_249 L xs) _ _ _).trans (KC_249 L xs)
set_option maxRecDepth 20000 in
theorem LN_250 (L : Nat) (xs : Nat → Int32) : (MC_250 L xs).1.length = 101 := by rw [KC_250]; rfl
theorem RR_250 (L : Nat) (xs : Nat → Int32) : (MC_250 L xs).2.2.2 = RC_249 := (mI_Rn (MC_249 L xs) _ _ _).trans (RR_249 L xs)
def IC_250 : Nat → Nat → Int32 := g_up IC_248 96 4 (0)
theorem II_250 (L : Nat) (xs : Nat → Int32) : ∀ i, i ≠ 0 → (MC_250 L xs).2.1 i = IC_250 i := mI_I (II_249 L xs)
theorem LL_250 (L : Nat) (xs : Nat → Int32) : ∀ i k, (MC_250 L xs).2.2.1 i k = 0 := mI_Ln (LL_249 L xs)
def MC_251 (L : Nat) (xs : Nat → Int32) : gM := mI (MC_250 L xs) 96 5 (0 : Int32)
set_option maxRecDepth 20000 in
theorem ST_251 (L : Nat) (xs : Nat → Int32) : pI 8 (MC_250 L xs) (some 96) 5 (0 : Int32) = some (MC_251 L xs) := pI_of (by unfold g_k; rw [KC_250]; rfl)
theorem KC_251 (L : Nat) (xs : Nat → Int32) : (MC_251 L xs).1 = (g_K0 L).take 101 := (mI_K (MC_250 L xs) _ _ _).trans (KC_250 L xs)
set_option maxRecDepth 20000 in
theorem LN_251 (L : Nat) (xs : Nat → Int32) : (MC_251 L xs).1.length = 101 := by rw [KC_251]; rfl
theorem RR_251 (L : Nat) (xs : Nat → Int32) : (MC_251 L xs).2.2.2 = RC_249 := (mI_Rn (MC_250 L xs) _ _ _).trans (RR_250 L xs)
def IC_251 : Nat → Nat → Int32 := g_up IC_250 96 5 (0)
theorem II_251 (L : Nat) (xs : Nat → Int32) : ∀ i, i ≠ 0 → (MC_251 L xs).2.1 i = IC_251 i := mI_I (II_250 L xs)
theorem LL_251 (L : Nat) (xs : Nat → Int32) : ∀ i k, (MC_251 L xs).2.2.1 i k = 0 := mI_Ln (LL_250 L xs)
def MC_252 (L : Nat) (xs : Nat → Int32) : gM := mI (MC_251 L xs) 96 6 (0 : Int32)
set_option maxRecDepth 20000 in
theorem ST_252 (L : Nat) (xs : Nat → Int32) : pI 8 (MC_251 L xs) (some 96) 6 (0 : Int32) = some (MC_252 L xs) := pI_of (by unfold g_k; rw [KC_251]; rfl)
theorem KC_252 (L : Nat) (xs : Nat → Int32) : (MC_252 L xs).1 = (g_K0 L).take 101 := (mI_K (MC_251 L xs) _ _ _).trans (KC_251 L xs)
set_option maxRecDepth 20000 in
theorem LN_252 (L : Nat) (xs : Nat → Int32) : (MC_252 L xs).1.length = 101 := by rw [KC_252]; rfl
theorem RR_252 (L : Nat) (xs : Nat → Int32) : (MC_252 L xs).2.2.2 = RC_249 := (mI_Rn (MC_251 L xs) _ _ _).trans (RR_251 L xs)
def IC_252 : Nat → Nat → Int32 := g_up IC_251 96 6 (0)
theorem II_252 (L : Nat) (xs : Nat → Int32) : ∀ i, i ≠ 0 → (MC_252 L xs).2.1 i = IC_252 i := mI_I (II_251 L xs)
theorem LL_252 (L : Nat) (xs : Nat → Int32) : ∀ i k, (MC_252 L xs).2.2.1 i k = 0 := mI_Ln (LL_251 L xs)
def MC_253 (L : Nat) (xs : Nat → Int32) : gM := mR (MC_252 L xs) 20 15 (some 96)
set_option maxRecDepth 20000 in
theorem ST_253 (L : Nat) (xs : Nat → Int32) : sR 24 (MC_252 L xs) (some 20) (15 : Int32) (some 96) = some (MC_253 L xs) := sR_of (n := 20) (by unfold g_k; rw [KC_252]; rfl) (by unfold g_k; rw [KC_252]; rfl) (by decide) (by decide)
theorem KC_253 (L : Nat) (xs : Nat → Int32) : (MC_253 L xs).1 = (g_K0 L).take 101 := (mR_K (MC_252 L xs) _ _ _).trans (KC_252 L xs)
set_option maxRecDepth 20000 in
theorem LN_253 (L : Nat) (xs : Nat → Int32) : (MC_253 L xs).1.length = 101 := by rw [KC_253]; rfl
def RC_253 : Nat → Nat → Option Nat := g_up RC_249 20 15 (some 96)
theorem RR_253 (L : Nat) (xs : Nat → Int32) : (MC_253 L xs).2.2.2 = RC_253 := mR_Rr (RR_252 L xs)
theorem II_253 (L : Nat) (xs : Nat → Int32) : ∀ i, i ≠ 0 → (MC_253 L xs).2.1 i = IC_252 i := mR_In (II_252 L xs)
theorem LL_253 (L : Nat) (xs : Nat → Int32) : ∀ i k, (MC_253 L xs).2.2.1 i k = 0 := mR_Ln (LL_252 L xs)
set_option maxRecDepth 20000 in
theorem GR_17 (L : Nat) (xs : Nat → Int32) : gR 4 (MC_253 L xs) (some 19) 0 = some (some 20) := gR_of (by unfold g_k; rw [KC_253]; rfl) (by rw [RR_253]; decide +kernel)
def MC_254 (L : Nat) (xs : Nat → Int32) : gM := nw (8, 0) (MC_253 L xs)
theorem NW_254 (L : Nat) (xs : Nat → Int32) : nw (8, 0) (MC_253 L xs) = MC_254 L xs := rfl
set_option maxRecDepth 20000 in
theorem KC_254 (L : Nat) (xs : Nat → Int32) : (MC_254 L xs).1 = (g_K0 L).take 102 := (nw_K _ (MC_253 L xs)).trans (by rw [KC_253]; rfl)
set_option maxRecDepth 20000 in
theorem LN_254 (L : Nat) (xs : Nat → Int32) : (MC_254 L xs).1.length = 102 := by rw [KC_254]; rfl
def RC_254 : Nat → Nat → Option Nat := g_row RC_253 101 (fun _ => none)
theorem RR_254 (L : Nat) (xs : Nat → Int32) : (MC_254 L xs).2.2.2 = RC_254 := nw_R (LN_253 L xs) (RR_253 L xs)
def IC_254 : Nat → Nat → Int32 := g_row IC_252 101 (fun _ => 0)
theorem II_254 (L : Nat) (xs : Nat → Int32) : ∀ i, i ≠ 0 → (MC_254 L xs).2.1 i = IC_254 i := nw_I (LN_253 L xs) (II_253 L xs)
theorem LL_254 (L : Nat) (xs : Nat → Int32) : ∀ i k, (MC_254 L xs).2.2.1 i k = 0 := nw_L (LL_253 L xs)
def MC_255 (L : Nat) (xs : Nat → Int32) : gM := nw (20, 49) (MC_254 L xs)
theorem NW_255 (L : Nat) (xs : Nat → Int32) : nw (20, 49) (MC_254 L xs) = MC_255 L xs := rfl
set_option maxRecDepth 20000 in
theorem KC_255 (L : Nat) (xs : Nat → Int32) : (MC_255 L xs).1 = (g_K0 L).take 103 := (nw_K _ (MC_254 L xs)).trans (by rw [KC_254]; rfl)
set_option maxRecDepth 20000 in
theorem LN_255 (L : Nat) (xs : Nat → Int32) : (MC_255 L xs).1.length = 103 := by rw [KC_255]; rfl
def RC_255 : Nat → Nat → Option Nat := g_row RC_254 102 (fun _ => none)
theorem RR_255 (L : Nat) (xs : Nat → Int32) : (MC_255 L xs).2.2.2 = RC_255 := nw_R (LN_254 L xs) (RR_254 L xs)
def IC_255 : Nat → Nat → Int32 := g_row IC_254 102 (fun _ => 0)
theorem II_255 (L : Nat) (xs : Nat → Int32) : ∀ i, i ≠ 0 → (MC_255 L xs).2.1 i = IC_255 i := nw_I (LN_254 L xs) (II_254 L xs)
theorem LL_255 (L : Nat) (xs : Nat → Int32) : ∀ i k, (MC_255 L xs).2.2.1 i k = 0 := nw_L (LL_254 L xs)
def MC_256 (L : Nat) (xs : Nat → Int32) : gM := mR (MC_255 L xs) 101 0 (some 102)
set_option maxRecDepth 20000 in
theorem ST_256 (L : Nat) (xs : Nat → Int32) : pR 8 (MC_255 L xs) (some 101) 0 (some 102) = some (MC_256 L xs) := pR_of (by unfold g_k; rw [KC_255]; rfl)
theorem KC_256 (L : Nat) (xs : Nat → Int32) : (MC_256 L xs).1 = (g_K0 L).take 103 := (mR_K (MC_255 L xs) _ _ _).trans (KC_255 L xs)
set_option maxRecDepth 20000 in
theorem LN_256 (L : Nat) (xs : Nat → Int32) : (MC_256 L xs).1.length = 103 := by rw [KC_256]; rfl
def RC_256 : Nat → Nat → Option Nat := g_up RC_255 101 0 (some 102)
theorem RR_256 (L : Nat) (xs : Nat → Int32) : (MC_256 L xs).2.2.2 = RC_256 := mR_Rr (RR_255 L xs)
theorem II_256 (L : Nat) (xs : Nat → Int32) : ∀ i, i ≠ 0 → (MC_256 L xs).2.1 i = IC_255 i := mR_In (II_255 L xs)
theorem LL_256 (L : Nat) (xs : Nat → Int32) : ∀ i k, (MC_256 L xs).2.2.1 i k = 0 := mR_Ln (LL_255 L xs)
def MC_257 (L : Nat) (xs : Nat → Int32) : gM := nw (20, 49) (MC_256 L xs)
theorem NW_257 (L : Nat) (xs : Nat → Int32) : nw (20, 49) (MC_256 L xs) = MC_257 L xs := rfl
set_option maxRecDepth 20000 in
theorem KC_257 (L : Nat) (xs : Nat → Int32) : (MC_257 L xs).1 = (g_K0 L).take 104 := (nw_K _ (MC_256 L xs)).trans (by rw [KC_256]; rfl)
set_option maxRecDepth 20000 in
theorem LN_257 (L : Nat) (xs : Nat → Int32) : (MC_257 L xs).1.length = 104 := by rw [KC_257]; rfl
def RC_257 : Nat → Nat → Option Nat := g_row RC_256 103 (fun _ => none)
theorem RR_257 (L : Nat) (xs : Nat → Int32) : (MC_257 L xs).2.2.2 = RC_257 := nw_R (LN_256 L xs) (RR_256 L xs)
def IC_257 : Nat → Nat → Int32 := g_row IC_255 103 (fun _ => 0)
theorem II_257 (L : Nat) (xs : Nat → Int32) : ∀ i, i ≠ 0 → (MC_257 L xs).2.1 i = IC_257 i := nw_I (LN_256 L xs) (II_256 L xs)
theorem LL_257 (L : Nat) (xs : Nat → Int32) : ∀ i k, (MC_257 L xs).2.2.1 i k = 0 := nw_L (LL_256 L xs)
def MC_258 (L : Nat) (xs : Nat → Int32) : gM := mR (MC_257 L xs) 101 1 (some 103)
set_option maxRecDepth 20000 in
theorem ST_258 (L : Nat) (xs : Nat → Int32) : pR 8 (MC_257 L xs) (some 101) 1 (some 103) = some (MC_258 L xs) := pR_of (by unfold g_k; rw [KC_257]; rfl)
theorem KC_258 (L : Nat) (xs : Nat → Int32) : (MC_258 L xs).1 = (g_K0 L).take 104 := (mR_K (MC_257 L xs) _ _ _).trans (KC_257 L xs)
set_option maxRecDepth 20000 in
theorem LN_258 (L : Nat) (xs : Nat → Int32) : (MC_258 L xs).1.length = 104 := by rw [KC_258]; rfl
def RC_258 : Nat → Nat → Option Nat := g_up RC_257 101 1 (some 103)
theorem RR_258 (L : Nat) (xs : Nat → Int32) : (MC_258 L xs).2.2.2 = RC_258 := mR_Rr (RR_257 L xs)
theorem II_258 (L : Nat) (xs : Nat → Int32) : ∀ i, i ≠ 0 → (MC_258 L xs).2.1 i = IC_257 i := mR_In (II_257 L xs)
theorem LL_258 (L : Nat) (xs : Nat → Int32) : ∀ i k, (MC_258 L xs).2.2.1 i k = 0 := mR_Ln (LL_257 L xs)
def MC_259 (L : Nat) (xs : Nat → Int32) : gM := nw (20, 7) (MC_258 L xs)
theorem NW_259 (L : Nat) (xs : Nat → Int32) : nw (20, 7) (MC_258 L xs) = MC_259 L xs := rfl
set_option maxRecDepth 20000 in
theorem KC_259 (L : Nat) (xs : Nat → Int32) : (MC_259 L xs).1 = (g_K0 L).take 105 := (nw_K _ (MC_258 L xs)).trans (by rw [KC_258]; rfl)
set_option maxRecDepth 20000 in
theorem LN_259 (L : Nat) (xs : Nat → Int32) : (MC_259 L xs).1.length = 105 := by rw [KC_259]; rfl
def RC_259 : Nat → Nat → Option Nat := g_row RC_258 104 (fun _ => none)
theorem RR_259 (L : Nat) (xs : Nat → Int32) : (MC_259 L xs).2.2.2 = RC_259 := nw_R (LN_258 L xs) (RR_258 L xs)
def IC_259 : Nat → Nat → Int32 := g_row IC_257 104 (fun _ => 0)
theorem II_259 (L : Nat) (xs : Nat → Int32) : ∀ i, i ≠ 0 → (MC_259 L xs).2.1 i = IC_259 i := nw_I (LN_258 L xs) (II_258 L xs)
theorem LL_259 (L : Nat) (xs : Nat → Int32) : ∀ i k, (MC_259 L xs).2.2.1 i k = 0 := nw_L (LL_258 L xs)
def MC_260 (L : Nat) (xs : Nat → Int32) : gM := mR (MC_259 L xs) 101 2 (some 104)
set_option maxRecDepth 20000 in
theorem ST_260 (L : Nat) (xs : Nat → Int32) : pR 8 (MC_259 L xs) (some 101) 2 (some 104) = some (MC_260 L xs) := pR_of (by unfold g_k; rw [KC_259]; rfl)
theorem KC_260 (L : Nat) (xs : Nat → Int32) : (MC_260 L xs).1 = (g_K0 L).take 105 := (mR_K (MC_259 L xs) _ _ _).trans (KC_259 L xs)
set_option maxRecDepth 20000 in
theorem LN_260 (L : Nat) (xs : Nat → Int32) : (MC_260 L xs).1.length = 105 := by rw [KC_260]; rfl
def RC_260 : Nat → Nat → Option Nat := g_up RC_259 101 2 (some 104)
theorem RR_260 (L : Nat) (xs : Nat → Int32) : (MC_260 L xs).2.2.2 = RC_260 := mR_Rr (RR_259 L xs)
theorem II_260 (L : Nat) (xs : Nat → Int32) : ∀ i, i ≠ 0 → (MC_260 L xs).2.1 i = IC_259 i := mR_In (II_259 L xs)
theorem LL_260 (L : Nat) (xs : Nat → Int32) : ∀ i k, (MC_260 L xs).2.2.1 i k = 0 := mR_Ln (LL_259 L xs)
def MC_261 (L : Nat) (xs : Nat → Int32) : gM := nw (20, 7) (MC_260 L xs)
theorem NW_261 (L : Nat) (xs : Nat → Int32) : nw (20, 7) (MC_260 L xs) = MC_261 L xs := rfl
set_option maxRecDepth 20000 in
theorem KC_261 (L : Nat) (xs : Nat → Int32) : (MC_261 L xs).1 = (g_K0 L).take 106 := (nw_K _ (MC_260 L xs)).trans (by rw [KC_260]; rfl)
set_option maxRecDepth 20000 in
theorem LN_261 (L : Nat) (xs : Nat → Int32) : (MC_261 L xs).1.length = 106 := by rw [KC_261]; rfl
def RC_261 : Nat → Nat → Option Nat := g_row RC_260 105 (fun _ => none)
theorem RR_261 (L : Nat) (xs : Nat → Int32) : (MC_261 L xs).2.2.2 = RC_261 := nw_R (LN_260 L xs) (RR_260 L xs)
def IC_261 : Nat → Nat → Int32 := g_row IC_259 105 (fun _ => 0)
theorem II_261 (L : Nat) (xs : Nat → Int32) : ∀ i, i ≠ 0 → (MC_261 L xs).2.1 i = IC_261 i := nw_I (LN_260 L xs) (II_260 L xs)
theorem LL_261 (L : Nat) (xs : Nat → Int32) : ∀ i k, (MC_261 L xs).2.2.1 i k = 0 := nw_L (LL_260 L xs)
def MC_262 (L : Nat) (xs : Nat → Int32) : gM := mR (MC_261 L xs) 101 3 (some 105)
set_option maxRecDepth 20000 in
theorem ST_262 (L : Nat) (xs : Nat → Int32) : pR 8 (MC_261 L xs) (some 101) 3 (some 105) = some (MC_262 L xs) := pR_of (by unfold g_k; rw [KC_261]; rfl)
theorem KC_262 (L : Nat) (xs : Nat → Int32) : (MC_262 L xs).1 = (g_K0 L).take 106 := (mR_K (MC_261 L xs) _ _ _).trans (KC_261 L xs)
set_option maxRecDepth 20000 in
theorem LN_262 (L : Nat) (xs : Nat → Int32) : (MC_262 L xs).1.length = 106 := by rw [KC_262]; rfl
def RC_262 : Nat → Nat → Option Nat := g_up RC_261 101 3 (some 105)
theorem RR_262 (L : Nat) (xs : Nat → Int32) : (MC_262 L xs).2.2.2 = RC_262 := mR_Rr (RR_261 L xs)
theorem II_262 (L : Nat) (xs : Nat → Int32) : ∀ i, i ≠ 0 → (MC_262 L xs).2.1 i = IC_261 i := mR_In (II_261 L xs)
theorem LL_262 (L : Nat) (xs : Nat → Int32) : ∀ i k, (MC_262 L xs).2.2.1 i k = 0 := mR_Ln (LL_261 L xs)
def MC_263 (L : Nat) (xs : Nat → Int32) : gM := mI (MC_262 L xs) 101 4 (0 : Int32)
set_option maxRecDepth 20000 in
theorem ST_263 (L : Nat) (xs : Nat → Int32) : pI 8 (MC_262 L xs) (some 101) 4 (0 : Int32) = some (MC_263 L xs) := pI_of (by unfold g_k; rw [KC_262]; rfl)
theorem KC_263 (L : Nat) (xs : Nat → Int32) : (MC_263 L xs).1 = (g_K0 L).take 106 := (mI_K (MC_262 L xs) _ _ _).trans (KC_262 L xs)
set_option maxRecDepth 20000 in
theorem LN_263 (L : Nat) (xs : Nat → Int32) : (MC_263 L xs).1.length = 106 := by rw [KC_263]; rfl
theorem RR_263 (L : Nat) (xs : Nat → Int32) : (MC_263 L xs).2.2.2 = RC_262 := (mI_Rn (MC_262 L xs) _ _ _).trans (RR_262 L xs)
def IC_263 : Nat → Nat → Int32 := g_up IC_261 101 4 (0)
theorem II_263 (L : Nat) (xs : Nat → Int32) : ∀ i, i ≠ 0 → (MC_263 L xs).2.1 i = IC_263 i := mI_I (II_262 L xs)
theorem LL_263 (L : Nat) (xs : Nat → Int32) : ∀ i k, (MC_263 L xs).2.2.1 i k = 0 := mI_Ln (LL_262 L xs)
def MC_264 (L : Nat) (xs : Nat → Int32) : gM := mI (MC_263 L xs) 101 5 (0 : Int32)
set_option maxRecDepth 20000 in
theorem ST_264 (L : Nat) (xs : Nat → Int32) : pI 8 (MC_263 L xs) (some 101) 5 (0 : Int32) = some (MC_264 L xs) := pI_of (by unfold g_k; rw [KC_263]; rfl)
theorem KC_264 (L : Nat) (xs : Nat → Int32) : (MC_264 L xs).1 = (g_K0 L).take 106 := (mI_K (MC_263 L xs) _ _ _).trans (KC_263 L xs)
set_option maxRecDepth 20000 in
theorem LN_264 (L : Nat) (xs : Nat → Int32) : (MC_264 L xs).1.length = 106 := by rw [KC_264]; rfl
theorem RR_264 (L : Nat) (xs : Nat → Int32) : (MC_264 L xs).2.2.2 = RC_262 := (mI_Rn (MC_263 L xs) _ _ _).trans (RR_263 L xs)
def IC_264 : Nat → Nat → Int32 := g_up IC_263 101 5 (0)
theorem II_264 (L : Nat) (xs : Nat → Int32) : ∀ i, i ≠ 0 → (MC_264 L xs).2.1 i = IC_264 i := mI_I (II_263 L xs)
theorem LL_264 (L : Nat) (xs : Nat → Int32) : ∀ i k, (MC_264 L xs).2.2.1 i k = 0 := mI_Ln (LL_263 L xs)
def MC_265 (L : Nat) (xs : Nat → Int32) : gM := mI (MC_264 L xs) 101 6 (0 : Int32)
set_option maxRecDepth 20000 in
theorem ST_265 (L : Nat) (xs : Nat → Int32) : pI 8 (MC_264 L xs) (some 101) 6 (0 : Int32) = some (MC_265 L xs) := pI_of (by unfold g_k; rw [KC_264]; rfl)
theorem KC_265 (L : Nat) (xs : Nat → Int32) : (MC_265 L xs).1 = (g_K0 L).take 106 := (mI_K (MC_264 L xs) _ _ _).trans (KC_264 L xs)
set_option maxRecDepth 20000 in
theorem LN_265 (L : Nat) (xs : Nat → Int32) : (MC_265 L xs).1.length = 106 := by rw [KC_265]; rfl
theorem RR_265 (L : Nat) (xs : Nat → Int32) : (MC_265 L xs).2.2.2 = RC_262 := (mI_Rn (MC_264 L xs) _ _ _).trans (RR_264 L xs)
def IC_265 : Nat → Nat → Int32 := g_up IC_264 101 6 (0)
theorem II_265 (L : Nat) (xs : Nat → Int32) : ∀ i, i ≠ 0 → (MC_265 L xs).2.1 i = IC_265 i := mI_I (II_264 L xs)
theorem LL_265 (L : Nat) (xs : Nat → Int32) : ∀ i k, (MC_265 L xs).2.2.1 i k = 0 := mI_Ln (LL_264 L xs)
def MC_266 (L : Nat) (xs : Nat → Int32) : gM := mR (MC_265 L xs) 20 16 (some 101)
set_option maxRecDepth 20000 in
theorem ST_266 (L : Nat) (xs : Nat → Int32) : sR 24 (MC_265 L xs) (some 20) (16 : Int32) (some 101) = some (MC_266 L xs) := sR_of (n := 20) (by unfold g_k; rw [KC_265]; rfl) (by unfold g_k; rw [KC_265]; rfl) (by decide) (by decide)
theorem KC_266 (L : Nat) (xs : Nat → Int32) : (MC_266 L xs).1 = (g_K0 L).take 106 := (mR_K (MC_265 L xs) _ _ _).trans (KC_265 L xs)
set_option maxRecDepth 20000 in
theorem LN_266 (L : Nat) (xs : Nat → Int32) : (MC_266 L xs).1.length = 106 := by rw [KC_266]; rfl
def RC_266 : Nat → Nat → Option Nat := g_up RC_262 20 16 (some 101)
theorem RR_266 (L : Nat) (xs : Nat → Int32) : (MC_266 L xs).2.2.2 = RC_266 := mR_Rr (RR_265 L xs)
theorem II_266 (L : Nat) (xs : Nat → Int32) : ∀ i, i ≠ 0 → (MC_266 L xs).2.1 i = IC_265 i := mR_In (II_265 L xs)
theorem LL_266 (L : Nat) (xs : Nat → Int32) : ∀ i k, (MC_266 L xs).2.2.1 i k = 0 := mR_Ln (LL_265 L xs)
set_option maxRecDepth 20000 in
theorem GR_18 (L : Nat) (xs : Nat → Int32) : gR 4 (MC_266 L xs) (some 19) 0 = some (some 20) := gR_of (by unfold g_k; rw [KC_266]; rfl) (by rw [RR_266]; decide +kernel)
def MC_267 (L : Nat) (xs : Nat → Int32) : gM := nw (8, 0) (MC_266 L xs)
theorem NW_267 (L : Nat) (xs : Nat → Int32) : nw (8, 0) (MC_266 L xs) = MC_267 L xs := rfl
set_option maxRecDepth 20000 in
theorem KC_267 (L : Nat) (xs : Nat → Int32) : (MC_267 L xs).1 = (g_K0 L).take 107 := (nw_K _ (MC_266 L xs)).trans (by rw [KC_266]; rfl)
set_option maxRecDepth 20000 in
theorem LN_267 (L : Nat) (xs : Nat → Int32) : (MC_267 L xs).1.length = 107 := by rw [KC_267]; rfl
def RC_267 : Nat → Nat → Option Nat := g_row RC_266 106 (fun _ => none)
theorem RR_267 (L : Nat) (xs : Nat → Int32) : (MC_267 L xs).2.2.2 = RC_267 := nw_R (LN_266 L xs) (RR_266 L xs)
def IC_267 : Nat → Nat → Int32 := g_row IC_265 106 (fun _ => 0)
theorem II_267 (L : Nat) (xs : Nat → Int32) : ∀ i, i ≠ 0 → (MC_267 L xs).2.1 i = IC_267 i := nw_I (LN_266 L xs) (II_266 L xs)
theorem LL_267 (L : Nat) (xs : Nat → Int32) : ∀ i k, (MC_267 L xs).2.2.1 i k = 0 := nw_L (LL_266 L xs)
def MC_268 (L : Nat) (xs : Nat → Int32) : gM := nw (20, 49) (MC_267 L xs)
theorem NW_268 (L : Nat) (xs : Nat → Int32) : nw (20, 49) (MC_267 L xs) = MC_268 L xs := rfl
set_option maxRecDepth 20000 in
theorem KC_268 (L : Nat) (xs : Nat → Int32) : (MC_268 L xs).1 = (g_K0 L).take 108 := (nw_K _ (MC_267 L xs)).trans (by rw [KC_267]; rfl)
set_option maxRecDepth 20000 in
theorem LN_268 (L : Nat) (xs : Nat → Int32) : (MC_268 L xs).1.length = 108 := by rw [KC_268]; rfl
def RC_268 : Nat → Nat → Option Nat := g_row RC_267 107 (fun _ => none)
theorem RR_268 (L : Nat) (xs : Nat → Int32) : (MC_268 L xs).2.2.2 = RC_268 := nw_R (LN_267 L xs) (RR_267 L xs)
def IC_268 : Nat → Nat → Int32 := g_row IC_267 107 (fun _ => 0)
theorem II_268 (L : Nat) (xs : Nat → Int32) : ∀ i, i ≠ 0 → (MC_268 L xs).2.1 i = IC_268 i := nw_I (LN_267 L xs) (II_267 L xs)
theorem LL_268 (L : Nat) (xs : Nat → Int32) : ∀ i k, (MC_268 L xs).2.2.1 i k = 0 := nw_L (LL_267 L xs)
def MC_269 (L : Nat) (xs : Nat → Int32) : gM := mR (MC_268 L xs) 106 0 (some 107)
set_option maxRecDepth 20000 in
theorem ST_269 (L : Nat) (xs : Nat → Int32) : pR 8 (MC_268 L xs) (some 106) 0 (some 107) = some (MC_269 L xs) := pR_of (by unfold g_k; rw [KC_268]; rfl)
theorem KC_269 (L : Nat) (xs : Nat → Int32) : (MC_269 L xs).1 = (g_K0 L).take 108 := (mR_K (MC_268 L xs) _ _ _).trans (KC_268 L xs)
set_option maxRecDepth 20000 in
theorem LN_269 (L : Nat) (xs : Nat → Int32) : (MC_269 L xs).1.length = 108 := by rw [KC_269]; rfl
def RC_269 : Nat → Nat → Option Nat := g_up RC_268 106 0 (some 107)
theorem RR_269 (L : Nat) (xs : Nat → Int32) : (MC_269 L xs).2.2.2 = RC_269 := mR_Rr (RR_268 L xs)
theorem II_269 (L : Nat) (xs : Nat → Int32) : ∀ i, i ≠ 0 → (MC_269 L xs).2.1 i = IC_268 i := mR_In (II_268 L xs)
theorem LL_269 (L : Nat) (xs : Nat → Int32) : ∀ i k, (MC_269 L xs).2.2.1 i k = 0 := mR_Ln (LL_268 L xs)
def MC_270 (L : Nat) (xs : Nat → Int32) : gM := nw (20, 49) (MC_269 L xs)
theorem NW_270 (L : Nat) (xs : Nat → Int32) : nw (20, 49) (MC_269 L xs) = MC_270 L xs := rfl
set_option maxRecDepth 20000 in
theorem KC_270 (L : Nat) (xs : Nat → Int32) : (MC_270 L xs).1 = (g_K0 L).take 109 := (nw_K _ (MC_269 L xs)).trans (by rw [KC_269]; rfl)
set_option maxRecDepth 20000 in
theorem LN_270 (L : Nat) (xs : Nat → Int32) : (MC_270 L xs).1.length = 109 := by rw [KC_270]; rfl
def RC_270 : Nat → Nat → Option Nat := g_row RC_269 108 (fun _ => none)
theorem RR_270 (L : Nat) (xs : Nat → Int32) : (MC_270 L xs).2.2.2 = RC_270 := nw_R (LN_269 L xs) (RR_269 L xs)
def IC_270 : Nat → Nat → Int32 := g_row IC_268 108 (fun _ => 0)
theorem II_270 (L : Nat) (xs : Nat → Int32) : ∀ i, i ≠ 0 → (MC_270 L xs).2.1 i = IC_270 i := nw_I (LN_269 L xs) (II_269 L xs)
theorem LL_270 (L : Nat) (xs : Nat → Int32) : ∀ i k, (MC_270 L xs).2.2.1 i k = 0 := nw_L (LL_269 L xs)
def MC_271 (L : Nat) (xs : Nat → Int32) : gM := mR (MC_270 L xs) 106 1 (some 108)
set_option maxRecDepth 20000 in
theorem ST_271 (L : Nat) (xs : Nat → Int32) : pR 8 (MC_270 L xs) (some 106) 1 (some 108) = some (MC_271 L xs) := pR_of (by unfold g_k; rw [KC_270]; rfl)
theorem KC_271 (L : Nat) (xs : Nat → Int32) : (MC_271 L xs).1 = (g_K0 L).take 109 := (mR_K (MC_270 L xs) _ _ _).trans (KC_270 L xs)
set_option maxRecDepth 20000 in
theorem LN_271 (L : Nat) (xs : Nat → Int32) : (MC_271 L xs).1.length = 109 := by rw [KC_271]; rfl
def RC_271 : Nat → Nat → Option Nat := g_up RC_270 106 1 (some 108)
theorem RR_271 (L : Nat) (xs : Nat → Int32) : (MC_271 L xs).2.2.2 = RC_271 := mR_Rr (RR_270 L xs)
theorem II_271 (L : Nat) (xs : Nat → Int32) : ∀ i, i ≠ 0 → (MC_271 L xs).2.1 i = IC_270 i := mR_In (II_270 L xs)
theorem LL_271 (L : Nat) (xs : Nat → Int32) : ∀ i k, (MC_271 L xs).2.2.1 i k = 0 := mR_Ln (LL_270 L xs)
def MC_272 (L : Nat) (xs : Nat → Int32) : gM := nw (20, 7) (MC_271 L xs)
theorem NW_272 (L : Nat) (xs : Nat → Int32) : nw (20, 7) (MC_271 L xs) = MC_272 L xs := rfl
set_option maxRecDepth 20000 in
theorem KC_272 (L : Nat) (xs : Nat → Int32) : (MC_272 L xs).1 = (g_K0 L).take 110 := (nw_K _ (MC_271 L xs)).trans (by rw [KC_271]; rfl)
set_option maxRecDepth 20000 in
theorem LN_272 (L : Nat) (xs : Nat → Int32) : (MC_272 L xs).1.length = 110 := by rw [KC_272]; rfl
def RC_272 : Nat → Nat → Option Nat := g_row RC_271 109 (fun _ => none)
theorem RR_272 (L : Nat) (xs : Nat → Int32) : (MC_272 L xs).2.2.2 = RC_272 := nw_R (LN_271 L xs) (RR_271 L xs)
def IC_272 : Nat → Nat → Int32 := g_row IC_270 109 (fun _ => 0)
theorem II_272 (L : Nat) (xs : Nat → Int32) : ∀ i, i ≠ 0 → (MC_272 L xs).2.1 i = IC_272 i := nw_I (LN_271 L xs) (II_271 L xs)
theorem LL_272 (L : Nat) (xs : Nat → Int32) : ∀ i k, (MC_272 L xs).2.2.1 i k = 0 := nw_L (LL_271 L xs)
def MC_273 (L : Nat) (xs : Nat → Int32) : gM := mR (MC_272 L xs) 106 2 (some 109)
set_option maxRecDepth 20000 in
theorem ST_273 (L : Nat) (xs : Nat → Int32) : pR 8 (MC_272 L xs) (some 106) 2 (some 109) = some (MC_273 L xs) := pR_of (by unfold g_k; rw [KC_272]; rfl)
theorem KC_273 (L : Nat) (xs : Nat → Int32) : (MC_273 L xs).1 = (g_K0 L).take 110 := (mR_K (MC_272 L xs) _ _ _).trans (KC_272 L xs)
set_option maxRecDepth 20000 in
theorem LN_273 (L : Nat) (xs : Nat → Int32) : (MC_273 L xs).1.length = 110 := by rw [KC_273]; rfl
def RC_273 : Nat → Nat → Option Nat := g_up RC_272 106 2 (some 109)
theorem RR_273 (L : Nat) (xs : Nat → Int32) : (MC_273 L xs).2.2.2 = RC_273 := mR_Rr (RR_272 L xs)
theorem II_273 (L : Nat) (xs : Nat → Int32) : ∀ i, i ≠ 0 → (MC_273 L xs).2.1 i = IC_272 i := mR_In (II_272 L xs)
theorem LL_273 (L : Nat) (xs : Nat → Int32) : ∀ i k, (MC_273 L xs).2.2.1 i k = 0 := mR_Ln (LL_272 L xs)
def MC_274 (L : Nat) (xs : Nat → Int32) : gM := nw (20, 7) (MC_273 L xs)
theorem NW_274 (L : Nat) (xs : Nat → Int32) : nw (20, 7) (MC_273 L xs) = MC_274 L xs := rfl
set_option maxRecDepth 20000 in
theorem KC_274 (L : Nat) (xs : Nat → Int32) : (MC_274 L xs).1 = (g_K0 L).take 111 := (nw_K _ (MC_273 L xs)).trans (by rw [KC_273]; rfl)
set_option maxRecDepth 20000 in
theorem LN_274 (L : Nat) (xs : Nat → Int32) : (MC_274 L xs).1.length = 111 := by rw [KC_274]; rfl
def RC_274 : Nat → Nat → Option Nat := g_row RC_273 110 (fun _ => none)
theorem RR_274 (L : Nat) (xs : Nat → Int32) : (MC_274 L xs).2.2.2 = RC_274 := nw_R (LN_273 L xs) (RR_273 L xs)
def IC_274 : Nat → Nat → Int32 := g_row IC_272 110 (fun _ => 0)
theorem II_274 (L : Nat) (xs : Nat → Int32) : ∀ i, i ≠ 0 → (MC_274 L xs).2.1 i = IC_274 i := nw_I (LN_273 L xs) (II_273 L xs)
theorem LL_274 (L : Nat) (xs : Nat → Int32) : ∀ i k, (MC_274 L xs).2.2.1 i k = 0 := nw_L (LL_273 L xs)
def MC_275 (L : Nat) (xs : Nat → Int32) : gM := mR (MC_274 L xs) 106 3 (some 110)
set_option maxRecDepth 20000 in
theorem ST_275 (L : Nat) (xs : Nat → Int32) : pR 8 (MC_274 L xs) (some 106) 3 (some 110) = some (MC_275 L xs) := pR_of (by unfold g_k; rw [KC_274]; rfl)
theorem KC_275 (L : Nat) (xs : Nat → Int32) : (MC_275 L xs).1 = (g_K0 L).take 111 := (mR_K (MC_274 L xs) _ _ _).trans (KC_274 L xs)
set_option maxRecDepth 20000 in
theorem LN_275 (L : Nat) (xs : Nat → Int32) : (MC_275 L xs).1.length = 111 := by rw [KC_275]; rfl
def RC_275 : Nat → Nat → Option Nat := g_up RC_274 106 3 (some 110)
theorem RR_275 (L : Nat) (xs : Nat → Int32) : (MC_275 L xs).2.2.2 = RC_275 := mR_Rr (RR_274 L xs)
theorem II_275 (L : Nat) (xs : Nat → Int32) : ∀ i, i ≠ 0 → (MC_275 L xs).2.1 i = IC_274 i := mR_In (II_274 L xs)
theorem LL_275 (L : Nat) (xs : Nat → Int32) : ∀ i k, (MC_275 L xs).2.2.1 i k = 0 := mR_Ln (LL_274 L xs)
def MC_276 (L : Nat) (xs : Nat → Int32) : gM := mI (MC_275 L xs) 106 4 (0 : Int32)
set_option maxRecDepth 20000 in
theorem ST_276 (L : Nat) (xs : Nat → Int32) : pI 8 (MC_275 L xs) (some 106) 4 (0 : Int32) = some (MC_276 L xs) := pI_of (by unfold g_k; rw [KC_275]; rfl)
theorem KC_276 (L : Nat) (xs : Nat → Int32) : (MC_276 L xs).1 = (g_K0 L).take 111 := (mI_K (MC_275 L xs) _ _ _).trans (KC_275 L xs)
set_option maxRecDepth 20000 in
theorem LN_276 (L : Nat) (xs : Nat → Int32) : (MC_276 L xs).1.length = 111 := by rw [KC_276]; rfl
theorem RR_276 (L : Nat) (xs : Nat → Int32) : (MC_276 L xs).2.2.2 = RC_275 := (mI_Rn (MC_275 L xs) _ _ _).trans (RR_275 L xs)
def IC_276 : Nat → Nat → Int32 := g_up IC_274 106 4 (0)
theorem II_276 (L : Nat) (xs : Nat → Int32) : ∀ i, i ≠ 0 → (MC_276 L xs).2.1 i = IC_276 i := mI_I (II_275 L xs)
theorem LL_276 (L : Nat) (xs : Nat → Int32) : ∀ i k, (MC_276 L xs).2.2.1 i k = 0 := mI_Ln (LL_275 L xs)
def MC_277 (L : Nat) (xs : Nat → Int32) : gM := mI (MC_276 L xs) 106 5 (0 : Int32)
set_option maxRecDepth 20000 in
theorem ST_277 (L : Nat) (xs : Nat → Int32) : pI 8 (MC_276 L xs) (some 106) 5 (0 : Int32) = some (MC_277 L xs) := pI_of (by unfold g_k; rw [KC_276]; rfl)
theorem KC_277 (L : Nat) (xs : Nat → Int32) : (MC_277 L xs).1 = (g_K0 L).take 111 := (mI_K (MC_276 L xs) _ _ _).trans (KC_276 L xs)
set_option maxRecDepth 20000 in
theorem LN_277 (L : Nat) (xs : Nat → Int32) : (MC_277 L xs).1.length = 111 := by rw [KC_277]; rfl
theorem RR_277 (L : Nat) (xs : Nat → Int32) : (MC_277 L xs).2.2.2 = RC_275 := (mI_Rn (MC_276 L xs) _ _ _).trans (RR_276 L xs)
def IC_277 : Nat → Nat → Int32 := g_up IC_276 106 5 (0)
theorem II_277 (L : Nat) (xs : Nat → Int32) : ∀ i, i ≠ 0 → (MC_277 L xs).2.1 i = IC_277 i := mI_I (II_276 L xs)
theorem LL_277 (L : Nat) (xs : Nat → Int32) : ∀ i k, (MC_277 L xs).2.2.1 i k = 0 := mI_Ln (LL_276 L xs)
def MC_278 (L : Nat) (xs : Nat → Int32) : gM := mI (MC_277 L xs) 106 6 (0 : Int32)
set_option maxRecDepth 20000 in
theorem ST_278 (L : Nat) (xs : Nat → Int32) : pI 8 (MC_277 L xs) (some 106) 6 (0 : Int32) = some (MC_278 L xs) := pI_of (by unfold g_k; rw [KC_277]; rfl)
theorem KC_278 (L : Nat) (xs : Nat → Int32) : (MC_278 L xs).1 = (g_K0 L).take 111 := (mI_K (MC_277 L xs) _ _ _).trans (KC_277 L xs)
set_option maxRecDepth 20000 in
theorem LN_278 (L : Nat) (xs : Nat → Int32) : (MC_278 L xs).1.length = 111 := by rw [KC_278]; rfl
theorem RR_278 (L : Nat) (xs : Nat → Int32) : (MC_278 L xs).2.2.2 = RC_275 := (mI_Rn (MC_277 L xs) _ _ _).trans (RR_277 L xs)
def IC_278 : Nat → Nat → Int32 := g_up IC_277 106 6 (0)
theorem II_278 (L : Nat) (xs : Nat → Int32) : ∀ i, i ≠ 0 → (MC_278 L xs).2.1 i = IC_278 i := mI_I (II_277 L xs)
theorem LL_278 (L : Nat) (xs : Nat → Int32) : ∀ i k, (MC_278 L xs).2.2.1 i k = 0 := mI_Ln (LL_277 L xs)
def MC_279 (L : Nat) (xs : Nat → Int32) : gM := mR (MC_278 L xs) 20 17 (some 106)
set_option maxRecDepth 20000 in
theorem ST_279 (L : Nat) (xs : Nat → Int32) : sR 24 (MC_278 L xs) (some 20) (17 : Int32) (some 106) = some (MC_279 L xs) := sR_of (n := 20) (by unfold g_k; rw [KC_278]; rfl) (by unfold g_k; rw [KC_278]; rfl) (by decide) (by decide)
theorem KC_279 (L : Nat) (xs : Nat → Int32) : (MC_279 L xs).1 = (g_K0 L).take 111 := (mR_K (MC_278 L xs) _ _ _).trans (KC_278 L xs)
set_option maxRecDepth 20000 in
theorem LN_279 (L : Nat) (xs : Nat → Int32) : (MC_279 L xs).1.length = 111 := by rw [KC_279]; rfl
def RC_279 : Nat → Nat → Option Nat := g_up RC_275 20 17 (some 106)
theorem RR_279 (L : Nat) (xs : Nat → Int32) : (MC_279 L xs).2.2.2 = RC_279 := mR_Rr (RR_278 L xs)
theorem II_279 (L : Nat) (xs : Nat → Int32) : ∀ i, i ≠ 0 → (MC_279 L xs).2.1 i = IC_278 i := mR_In (II_278 L xs)
theorem LL_279 (L : Nat) (xs : Nat → Int32) : ∀ i k, (MC_279 L xs).2.2.1 i k = 0 := mR_Ln (LL_278 L xs)
set_option maxRecDepth 20000 in
theorem GR_19 (L : Nat) (xs : Nat → Int32) : gR 4 (MC_279 L xs) (some 19) 0 = some (some 20) := gR_of (by unfold g_k; rw [KC_279]; rfl) (by rw [RR_279]; decide +kernel)
def MC_280 (L : Nat) (xs : Nat → Int32) : gM := nw (8, 0) (MC_279 L xs)
theorem NW_280 (L : Nat) (xs : Nat → Int32) : nw (8, 0) (MC_279 L xs) = MC_280 L xs := rfl
set_option maxRecDepth 20000 in
theorem KC_280 (L : Nat) (xs : Nat → Int32) : (MC_280 L xs).1 = (g_K0 L).take 112 := (nw_K _ (MC_279 L xs)).trans (by rw [KC_279]; rfl)
set_option maxRecDepth 20000 in
theorem LN_280 (L : Nat) (xs : Nat → Int32) : (MC_280 L xs).1.length = 112 := by rw [KC_280]; rfl
def RC_280 : Nat → Nat → Option Nat := g_row RC_279 111 (fun _ => none)
theorem RR_280 (L : Nat) (xs : Nat → Int32) : (MC_280 L xs).2.2.2 = RC_280 := nw_R (LN_279 L xs) (RR_279 L xs)
def IC_280 : Nat → Nat → Int32 := g_row IC_278 111 (fun _ => 0)
theorem II_280 (L : Nat) (xs : Nat → Int32) : ∀ i, i ≠ 0 → (MC_280 L xs).2.1 i = IC_280 i := nw_I (LN_279 L xs) (II_279 L xs)
theorem LL_280 (L : Nat) (xs : Nat → Int32) : ∀ i k, (MC_280 L xs).2.2.1 i k = 0 := nw_L (LL_279 L xs)
def MC_281 (L : Nat) (xs : Nat → Int32) : gM := nw (20, 49) (MC_280 L xs)
theorem NW_281 (L : Nat) (xs : Nat → Int32) : nw (20, 49) (MC_280 L xs) = MC_281 L xs := rfl
set_option maxRecDepth 20000 in
theorem KC_281 (L : Nat) (xs : Nat → Int32) : (MC_281 L xs).1 = (g_K0 L).take 113 := (nw_K _ (MC_280 L xs)).trans (by rw [KC_280]; rfl)
set_option maxRecDepth 20000 in
theorem LN_281 (L : Nat) (xs : Nat → Int32) : (MC_281 L xs).1.length = 113 := by rw [KC_281]; rfl
def RC_281 : Nat → Nat → Option Nat := g_row RC_280 112 (fun _ => none)
theorem RR_281 (L : Nat) (xs : Nat → Int32) : (MC_281 L xs).2.2.2 = RC_281 := nw_R (LN_280 L xs) (RR_280 L xs)
def IC_281 : Nat → Nat → Int32 := g_row IC_280 112 (fun _ => 0)
theorem II_281 (L : Nat) (xs : Nat → Int32) : ∀ i, i ≠ 0 → (MC_281 L xs).2.1 i = IC_281 i := nw_I (LN_280 L xs) (II_280 L xs)
theorem LL_281 (L : Nat) (xs : Nat → Int32) : ∀ i k, (MC_281 L xs).2.2.1 i k = 0 := nw_L (LL_280 L xs)
def MC_282 (L : Nat) (xs : Nat → Int32) : gM := mR (MC_281 L xs) 111 0 (some 112)
set_option maxRecDepth 20000 in
theorem ST_282 (L : Nat) (xs : Nat → Int32) : pR 8 (MC_281 L xs) (some 111) 0 (some 112) = some (MC_282 L xs) := pR_of (by unfold g_k; rw [KC_281]; rfl)
theorem KC_282 (L : Nat) (xs : Nat → Int32) : (MC_282 L xs).1 = (g_K0 L).take 113 := (mR_K (MC_281 L xs) _ _ _).trans (KC_281 L xs)
set_option maxRecDepth 20000 in
theorem LN_282 (L : Nat) (xs : Nat → Int32) : (MC_282 L xs).1.length = 113 := by rw [KC_282]; rfl
def RC_282 : Nat → Nat → Option Nat := g_up RC_281 111 0 (some 112)
theorem RR_282 (L : Nat) (xs : Nat → Int32) : (MC_282 L xs).2.2.2 = RC_282 := mR_Rr (RR_281 L xs)
theorem II_282 (L : Nat) (xs : Nat → Int32) : ∀ i, i ≠ 0 → (MC_282 L xs).2.1 i = IC_281 i := mR_In (II_281 L xs)
theorem LL_282 (L : Nat) (xs : Nat → Int32) : ∀ i k, (MC_282 L xs).2.2.1 i k = 0 := mR_Ln (LL_281 L xs)
def MC_283 (L : Nat) (xs : Nat → Int32) : gM := nw (20, 49) (MC_282 L xs)
theorem NW_283 (L : Nat) (xs : Nat → Int32) : nw (20, 49) (MC_282 L xs) = MC_283 L xs := rfl
set_option maxRecDepth 20000 in
theorem KC_283 (L : Nat) (xs : Nat → Int32) : (MC_283 L xs).1 = (g_K0 L).take 114 := (nw_K _ (MC_282 L xs)).trans (by rw [KC_282]; rfl)
set_option maxRecDepth 20000 in
theorem LN_283 (L : Nat) (xs : Nat → Int32) : (MC_283 L xs).1.length = 114 := by rw [KC_283]; rfl
def RC_283 : Nat → Nat → Option Nat := g_row RC_282 113 (fun _ => none)
theorem RR_283 (L : Nat) (xs : Nat → Int32) : (MC_283 L xs).2.2.2 = RC_283 := nw_R (LN_282 L xs) (RR_282 L xs)
def IC_283 : Nat → Nat → Int32 := g_row IC_281 113 (fun _ => 0)
theorem II_283 (L : Nat) (xs : Nat → Int32) : ∀ i, i ≠ 0 → (MC_283 L xs).2.1 i = IC_283 i := nw_I (LN_282 L xs) (II_282 L xs)
theorem LL_283 (L : Nat) (xs : Nat → Int32) : ∀ i k, (MC_283 L xs).2.2.1 i k = 0 := nw_L (LL_282 L xs)
def MC_284 (L : Nat) (xs : Nat → Int32) : gM := mR (MC_283 L xs) 111 1 (some 113)
set_option maxRecDepth 20000 in
theorem ST_284 (L : Nat) (xs : Nat → Int32) : pR 8 (MC_283 L xs) (some 111) 1 (some 113) = some (MC_284 L xs) := pR_of (by unfold g_k; rw [KC_283]; rfl)
theorem KC_284 (L : Nat) (xs : Nat → Int32) : (MC_284 L xs).1 = (g_K0 L).take 114 := (mR_K (MC_283 L xs) _ _ _).trans (KC_283 L xs)
set_option maxRecDepth 20000 in
theorem LN_284 (L : Nat) (xs : Nat → Int32) : (MC_284 L xs).1.length = 114 := by rw [KC_284]; rfl
def RC_284 : Nat → Nat → Option Nat := g_up RC_283 111 1 (some 113)
theorem RR_284 (L : Nat) (xs : Nat → Int32) : (MC_284 L xs).2.2.2 = RC_284 := mR_Rr (RR_283 L xs)
theorem II_284 (L : Nat) (xs : Nat → Int32) : ∀ i, i ≠ 0 → (MC_284 L xs).2.1 i = IC_283 i := mR_In (II_283 L xs)
theorem LL_284 (L : Nat) (xs : Nat → Int32) : ∀ i k, (MC_284 L xs).2.2.1 i k = 0 := mR_Ln (LL_283 L xs)
def MC_285 (L : Nat) (xs : Nat → Int32) : gM := nw (20, 7) (MC_284 L xs)
theorem NW_285 (L : Nat) (xs : Nat → Int32) : nw (20, 7) (MC_284 L xs) = MC_285 L xs := rfl
set_option maxRecDepth 20000 in
theorem KC_285 (L : Nat) (xs : Nat → Int32) : (MC_285 L xs).1 = (g_K0 L).take 115 := (nw_K _ (MC_284 L xs)).trans (by rw [KC_284]; rfl)
set_option maxRecDepth 20000 in
theorem LN_285 (L : Nat) (xs : Nat → Int32) : (MC_285 L xs).1.length = 115 := by rw [KC_285]; rfl
def RC_285 : Nat → Nat → Option Nat := g_row RC_284 114 (fun _ => none)
theorem RR_285 (L : Nat) (xs : Nat → Int32) : (MC_285 L xs).2.2.2 = RC_285 := nw_R (LN_284 L xs) (RR_284 L xs)
def IC_285 : Nat → Nat → Int32 := g_row IC_283 114 (fun _ => 0)
theorem II_285 (L : Nat) (xs : Nat → Int32) : ∀ i, i ≠ 0 → (MC_285 L xs).2.1 i = IC_285 i := nw_I (LN_284 L xs) (II_284 L xs)
theorem LL_285 (L : Nat) (xs : Nat → Int32) : ∀ i k, (MC_285 L xs).2.2.1 i k = 0 := nw_L (LL_284 L xs)
def MC_286 (L : Nat) (xs : Nat → Int32) : gM := mR (MC_285 L xs) 111 2 (some 114)
set_option maxRecDepth 20000 in
theorem ST_286 (L : Nat) (xs : Nat → Int32) : pR 8 (MC_285 L xs) (some 111) 2 (some 114) = some (MC_286 L xs) := pR_of (by unfold g_k; rw [KC_285]; rfl)
theorem KC_286 (L : Nat) (xs : Nat → Int32) : (MC_286 L xs).1 = (g_K0 L).take 115 := (mR_K (MC_285 L xs) _ _ _).trans (KC_285 L xs)
set_option maxRecDepth 20000 in
theorem LN_286 (L : Nat) (xs : Nat → Int32) : (MC_286 L xs).1.length = 115 := by rw [KC_286]; rfl
def RC_286 : Nat → Nat → Option Nat := g_up RC_285 111 2 (some 114)
theorem RR_286 (L : Nat) (xs : Nat → Int32) : (MC_286 L xs).2.2.2 = RC_286 := mR_Rr (RR_285 L xs)
theorem II_286 (L : Nat) (xs : Nat → Int32) : ∀ i, i ≠ 0 → (MC_286 L xs).2.1 i = IC_285 i := mR_In (II_285 L xs)
theorem LL_286 (L : Nat) (xs : Nat → Int32) : ∀ i k, (MC_286 L xs).2.2.1 i k = 0 := mR_Ln (LL_285 L xs)
def MC_287 (L : Nat) (xs : Nat → Int32) : gM := nw (20, 7) (MC_286 L xs)
theorem NW_287 (L : Nat) (xs : Nat → Int32) : nw (20, 7) (MC_286 L xs) = MC_287 L xs := rfl
set_option maxRecDepth 20000 in
theorem KC_287 (L : Nat) (xs : Nat → Int32) : (MC_287 L xs).1 = (g_K0 L).take 116 := (nw_K _ (MC_286 L xs)).trans (by rw [KC_286]; rfl)
set_option maxRecDepth 20000 in
theorem LN_287 (L : Nat) (xs : Nat → Int32) : (MC_287 L xs).1.length = 116 := by rw [KC_287]; rfl
def RC_287 : Nat → Nat → Option Nat := g_row RC_286 115 (fun _ => none)
theorem RR_287 (L : Nat) (xs : Nat → Int32) : (MC_287 L xs).2.2.2 = RC_287 := nw_R (LN_286 L xs) (RR_286 L xs)
def IC_287 : Nat → Nat → Int32 := g_row IC_285 115 (fun _ => 0)
theorem II_287 (L : Nat) (xs : Nat → Int32) : ∀ i, i ≠ 0 → (MC_287 L xs).2.1 i = IC_287 i := nw_I (LN_286 L xs) (II_286 L xs)
theorem LL_287 (L : Nat) (xs : Nat → Int32) : ∀ i k, (MC_287 L xs).2.2.1 i k = 0 := nw_L (LL_286 L xs)
def MC_288 (L : Nat) (xs : Nat → Int32) : gM := mR (MC_287 L xs) 111 3 (some 115)
set_option maxRecDepth 20000 in
theorem ST_288 (L : Nat) (xs : Nat → Int32) : pR 8 (MC_287 L xs) (some 111) 3 (some 115) = some (MC_288 L xs) := pR_of (by unfold g_k; rw [KC_287]; rfl)
theorem KC_288 (L : Nat) (xs : Nat → Int32) : (MC_288 L xs).1 = (g_K0 L).take 116 := (mR_K (MC_287 L xs) _ _ _).trans (KC_287 L xs)
set_option maxRecDepth 20000 in
theorem LN_288 (L : Nat) (xs : Nat → Int32) : (MC_288 L xs).1.length = 116 := by rw [KC_288]; rfl
def RC_288 : Nat → Nat → Option Nat := g_up RC_287 111 3 (some 115)
theorem RR_288 (L : Nat) (xs : Nat → Int32) : (MC_288 L xs).2.2.2 = RC_288 := mR_Rr (RR_287 L xs)
theorem II_288 (L : Nat) (xs : Nat → Int32) : ∀ i, i ≠ 0 → (MC_288 L xs).2.1 i = IC_287 i := mR_In (II_287 L xs)
theorem LL_288 (L : Nat) (xs : Nat → Int32) : ∀ i k, (MC_288 L xs).2.2.1 i k = 0 := mR_Ln (LL_287 L xs)
def MC_289 (L : Nat) (xs : Nat → Int32) : gM := mI (MC_288 L xs) 111 4 (0 : Int32)
set_option maxRecDepth 20000 in
theorem ST_289 (L : Nat) (xs : Nat → Int32) : pI 8 (MC_288 L xs) (some 111) 4 (0 : Int32) = some (MC_289 L xs) := pI_of (by unfold g_k; rw [KC_288]; rfl)
theorem KC_289 (L : Nat) (xs : Nat → Int32) : (MC_289 L xs).1 = (g_K0 L).take 116 := (mI_K (MC_288 L xs) _ _ _).trans (KC_288 L xs)
set_option maxRecDepth 20000 in
theorem LN_289 (L : Nat) (xs : Nat → Int32) : (MC_289 L xs).1.length = 116 := by rw [KC_289]; rfl
theorem RR_289 (L : Nat) (xs : Nat → Int32) : (MC_289 L xs).2.2.2 = RC_288 := (mI_Rn (MC_288 L xs) _ _ _).trans (RR_288 L xs)
def IC_289 : Nat → Nat → Int32 := g_up IC_287 111 4 (0)
theorem II_289 (L : Nat) (xs : Nat → Int32) : ∀ i, i ≠ 0 → (MC_289 L xs).2.1 i = IC_289 i := mI_I (II_288 L xs)
theorem LL_289 (L : Nat) (xs : Nat → Int32) : ∀ i k, (MC_289 L xs).2.2.1 i k = 0 := mI_Ln (LL_288 L xs)
def MC_290 (L : Nat) (xs : Nat → Int32) : gM := mI (MC_289 L xs) 111 5 (0 : Int32)
set_option maxRecDepth 20000 in
theorem ST_290 (L : Nat) (xs : Nat → Int32) : pI 8 (MC_289 L xs) (some 111) 5 (0 : Int32) = some (MC_290 L xs) := pI_of (by unfold g_k; rw [KC_289]; rfl)
theorem KC_290 (L : Nat) (xs : Nat → Int32) : (MC_290 L xs).1 = (g_K0 L).take 116 := (mI_K (MC_289 L xs) _ _ _).trans (KC_289 L xs)
set_option maxRecDepth 20000 in
theorem LN_290 (L : Nat) (xs : Nat → Int32) : (MC_290 L xs).1.length = 116 := by rw [KC_290]; rfl
theorem RR_290 (L : Nat) (xs : Nat → Int32) : (MC_290 L xs).2.2.2 = RC_288 := (mI_Rn (MC_289 L xs) _ _ _).trans (RR_289 L xs)
def IC_290 : Nat → Nat → Int32 := g_up IC_289 111 5 (0)
theorem II_290 (L : Nat) (xs : Nat → Int32) : ∀ i, i ≠ 0 → (MC_290 L xs).2.1 i = IC_290 i := mI_I (II_289 L xs)
theorem LL_290 (L : Nat) (xs : Nat → Int32) : ∀ i k, (MC_290 L xs).2.2.1 i k = 0 := mI_Ln (LL_289 L xs)
def MC_291 (L : Nat) (xs : Nat → Int32) : gM := mI (MC_290 L xs) 111 6 (0 : Int32)
set_option maxRecDepth 20000 in
theorem ST_291 (L : Nat) (xs : Nat → Int32) : pI 8 (MC_290 L xs) (some 111) 6 (0 : Int32) = some (MC_291 L xs) := pI_of (by unfold g_k; rw [KC_290]; rfl)
theorem KC_291 (L : Nat) (xs : Nat → Int32) : (MC_291 L xs).1 = (g_K0 L).take 116 := (mI_K (MC_290 L xs) _ _ _).trans (KC_290 L xs)
set_option maxRecDepth 20000 in
theorem LN_291 (L : Nat) (xs : Nat → Int32) : (MC_291 L xs).1.length = 116 := by rw [KC_291]; rfl
theorem RR_291 (L : Nat) (xs : Nat → Int32) : (MC_291 L xs).2.2.2 = RC_288 := (mI_Rn (MC_290 L xs) _ _ _).trans (RR_290 L xs)
def IC_291 : Nat → Nat → Int32 := g_up IC_290 111 6 (0)
theorem II_291 (L : Nat) (xs : Nat → Int32) : ∀ i, i ≠ 0 → (MC_291 L xs).2.1 i = IC_291 i := mI_I (II_290 L xs)
theorem LL_291 (L : Nat) (xs : Nat → Int32) : ∀ i k, (MC_291 L xs).2.2.1 i k = 0 := mI_Ln (LL_290 L xs)
def MC_292 (L : Nat) (xs : Nat → Int32) : gM := mR (MC_291 L xs) 20 18 (some 111)
set_option maxRecDepth 20000 in
theorem ST_292 (L : Nat) (xs : Nat → Int32) : sR 24 (MC_291 L xs) (some 20) (18 : Int32) (some 111) = some (MC_292 L xs) := sR_of (n := 20) (by unfold g_k; rw [KC_291]; rfl) (by unfold g_k; rw [KC_291]; rfl) (by decide) (by decide)
theorem KC_292 (L : Nat) (xs : Nat → Int32) : (MC_292 L xs).1 = (g_K0 L).take 116 := (mR_K (MC_291 L xs) _ _ _).trans (KC_291 L xs)
set_option maxRecDepth 20000 in
theorem LN_292 (L : Nat) (xs : Nat → Int32) : (MC_292 L xs).1.length = 116 := by rw [KC_292]; rfl
def RC_292 : Nat → Nat → Option Nat := g_up RC_288 20 18 (some 111)
theorem RR_292 (L : Nat) (xs : Nat → Int32) : (MC_292 L xs).2.2.2 = RC_292 := mR_Rr (RR_291 L xs)
theorem II_292 (L : Nat) (xs : Nat → Int32) : ∀ i, i ≠ 0 → (MC_292 L xs).2.1 i = IC_291 i := mR_In (II_291 L xs)
theorem LL_292 (L : Nat) (xs : Nat → Int32) : ∀ i k, (MC_292 L xs).2.2.1 i k = 0 := mR_Ln (LL_291 L xs)
set_option maxRecDepth 20000 in
theorem GR_20 (L : Nat) (xs : Nat → Int32) : gR 4 (MC_292 L xs) (some 19) 0 = some (some 20) := gR_of (by unfold g_k; rw [KC_292]; rfl) (by rw [RR_292]; decide +kernel)
def MC_293 (L : Nat) (xs : Nat → Int32) : gM := nw (8, 0) (MC_292 L xs)
theorem NW_293 (L : Nat) (xs : Nat → Int32) : nw (8, 0) (MC_292 L xs) = MC_293 L xs := rfl
set_option maxRecDepth 20000 in
theorem KC_293 (L : Nat) (xs : Nat → Int32) : (MC_293 L xs).1 = (g_K0 L).take 117 := (nw_K _ (MC_292 L xs)).trans (by rw [KC_292]; rfl)
set_option maxRecDepth 20000 in
theorem LN_293 (L : Nat) (xs : Nat → Int32) : (MC_293 L xs).1.length = 117 := by rw [KC_293]; rfl
def RC_293 : Nat → Nat → Option Nat := g_row RC_292 116 (fun _ => none)
theorem RR_293 (L : Nat) (xs : Nat → Int32) : (MC_293 L xs).2.2.2 = RC_293 := nw_R (LN_292 L xs) (RR_292 L xs)
def IC_293 : Nat → Nat → Int32 := g_row IC_291 116 (fun _ => 0)
theorem II_293 (L : Nat) (xs : Nat → Int32) : ∀ i, i ≠ 0 → (MC_293 L xs).2.1 i = IC_293 i := nw_I (LN_292 L xs) (II_292 L xs)
theorem LL_293 (L : Nat) (xs : Nat → Int32) : ∀ i k, (MC_293 L xs).2.2.1 i k = 0 := nw_L (LL_292 L xs)
def MC_294 (L : Nat) (xs : Nat → Int32) : gM := nw (20, 49) (MC_293 L xs)
theorem NW_294 (L : Nat) (xs : Nat → Int32) : nw (20, 49) (MC_293 L xs) = MC_294 L xs := rfl
set_option maxRecDepth 20000 in
theorem KC_294 (L : Nat) (xs : Nat → Int32) : (MC_294 L xs).1 = (g_K0 L).take 118 := (nw_K _ (MC_293 L xs)).trans (by rw [KC_293]; rfl)
set_option maxRecDepth 20000 in
theorem LN_294 (L : Nat) (xs : Nat → Int32) : (MC_294 L xs).1.length = 118 := by rw [KC_294]; rfl
def RC_294 : Nat → Nat → Option Nat := g_row RC_293 117 (fun _ => none)
theorem RR_294 (L : Nat) (xs : Nat → Int32) : (MC_294 L xs).2.2.2 = RC_294 := nw_R (LN_293 L xs) (RR_293 L xs)
def IC_294 : Nat → Nat → Int32 := g_row IC_293 117 (fun _ => 0)
theorem II_294 (L : Nat) (xs : Nat → Int32) : ∀ i, i ≠ 0 → (MC_294 L xs).2.1 i = IC_294 i := nw_I (LN_293 L xs) (II_293 L xs)
theorem LL_294 (L : Nat) (xs : Nat → Int32) : ∀ i k, (MC_294 L xs).2.2.1 i k = 0 := nw_L (LL_293 L xs)
def MC_295 (L : Nat) (xs : Nat → Int32) : gM := mR (MC_294 L xs) 116 0 (some 117)
set_option maxRecDepth 20000 in
theorem ST_295 (L : Nat) (xs : Nat → Int32) : pR 8 (MC_294 L xs) (some 116) 0 (some 117) = some (MC_295 L xs) := pR_of (by unfold g_k; rw [KC_294]; rfl)
theorem KC_295 (L : Nat) (xs : Nat → Int32) : (MC_295 L xs).1 = (g_K0 L).take 118 := (mR_K (MC_294 L xs) _ _ _).trans (KC_294 L xs)
set_option maxRecDepth 20000 in
theorem LN_295 (L : Nat) (xs : Nat → Int32) : (MC_295 L xs).1.length = 118 := by rw [KC_295]; rfl
def RC_295 : Nat → Nat → Option Nat := g_up RC_294 116 0 (some 117)
theorem RR_295 (L : Nat) (xs : Nat → Int32) : (MC_295 L xs).2.2.2 = RC_295 := mR_Rr (RR_294 L xs)
theorem II_295 (L : Nat) (xs : Nat → Int32) : ∀ i, i ≠ 0 → (MC_295 L xs).2.1 i = IC_294 i := mR_In (II_294 L xs)
theorem LL_295 (L : Nat) (xs : Nat → Int32) : ∀ i k, (MC_295 L xs).2.2.1 i k = 0 := mR_Ln (LL_294 L xs)
def MC_296 (L : Nat) (xs : Nat → Int32) : gM := nw (20, 49) (MC_295 L xs)
theorem NW_296 (L : Nat) (xs : Nat → Int32) : nw (20, 49) (MC_295 L xs) = MC_296 L xs := rfl
set_option maxRecDepth 20000 in
theorem KC_296 (L : Nat) (xs : Nat → Int32) : (MC_296 L xs).1 = (g_K0 L).take 119 := (nw_K _ (MC_295 L xs)).trans (by rw [KC_295]; rfl)
set_option maxRecDepth 20000 in
theorem LN_296 (L : Nat) (xs : Nat → Int32) : (MC_296 L xs).1.length = 119 := by rw [KC_296]; rfl
def RC_296 : Nat → Nat → Option Nat := g_row RC_295 118 (fun _ => none)
theorem RR_296 (L : Nat) (xs : Nat → Int32) : (MC_296 L xs).2.2.2 = RC_296 := nw_R (LN_295 L xs) (RR_295 L xs)
def IC_296 : Nat → Nat → Int32 := g_row IC_294 118 (fun _ => 0)
theorem II_296 (L : Nat) (xs : Nat → Int32) : ∀ i, i ≠ 0 → (MC_296 L xs).2.1 i = IC_296 i := nw_I (LN_295 L xs) (II_295 L xs)
theorem LL_296 (L : Nat) (xs : Nat → Int32) : ∀ i k, (MC_296 L xs).2.2.1 i k = 0 := nw_L (LL_295 L xs)
def MC_297 (L : Nat) (xs : Nat → Int32) : gM := mR (MC_296 L xs) 116 1 (some 118)
set_option maxRecDepth 20000 in
theorem ST_297 (L : Nat) (xs : Nat → Int32) : pR 8 (MC_296 L xs) (some 116) 1 (some 118) = some (MC_297 L xs) := pR_of (by unfold g_k; rw [KC_296]; rfl)
theorem KC_297 (L : Nat) (xs : Nat → Int32) : (MC_297 L xs).1 = (g_K0 L).take 119 := (mR_K (MC_296 L xs) _ _ _).trans (KC_296 L xs)
set_option maxRecDepth 20000 in
theorem LN_297 (L : Nat) (xs : Nat → Int32) : (MC_297 L xs).1.length = 119 := by rw [KC_297]; rfl
def RC_297 : Nat → Nat → Option Nat := g_up RC_296 116 1 (some 118)
theorem RR_297 (L : Nat) (xs : Nat → Int32) : (MC_297 L xs).2.2.2 = RC_297 := mR_Rr (RR_296 L xs)
theorem II_297 (L : Nat) (xs : Nat → Int32) : ∀ i, i ≠ 0 → (MC_297 L xs).2.1 i = IC_296 i := mR_In (II_296 L xs)
theorem LL_297 (L : Nat) (xs : Nat → Int32) : ∀ i k, (MC_297 L xs).2.2.1 i k = 0 := mR_Ln (LL_296 L xs)
def MC_298 (L : Nat) (xs : Nat → Int32) : gM := nw (20, 7) (MC_297 L xs)
theorem NW_298 (L : Nat) (xs : Nat → Int32) : nw (20, 7) (MC_297 L xs) = MC_298 L xs := rfl
set_option maxRecDepth 20000 in
theorem KC_298 (L : Nat) (xs : Nat → Int32) : (MC_298 L xs).1 = (g_K0 L).take 120 := (nw_K _ (MC_297 L xs)).trans (by rw [KC_297]; rfl)
set_option maxRecDepth 20000 in
theorem LN_298 (L : Nat) (xs : Nat → Int32) : (MC_298 L xs).1.length = 120 := by rw [KC_298]; rfl
def RC_298 : Nat → Nat → Option Nat := g_row RC_297 119 (fun _ => none)
theorem RR_298 (L : Nat) (xs : Nat → Int32) : (MC_298 L xs).2.2.2 = RC_298 := nw_R (LN_297 L xs) (RR_297 L xs)
def IC_298 : Nat → Nat → Int32 := g_row IC_296 119 (fun _ => 0)
theorem II_298 (L : Nat) (xs : Nat → Int32) : ∀ i, i ≠ 0 → (MC_298 L xs).2.1 i = IC_298 i := nw_I (LN_297 L xs) (II_297 L xs)
theorem LL_298 (L : Nat) (xs : Nat → Int32) : ∀ i k, (MC_298 L xs).2.2.1 i k = 0 := nw_L (LL_297 L xs)
def MC_299 (L : Nat) (xs : Nat → Int32) : gM := mR (MC_298 L xs) 116 2 (some 119)
set_option maxRecDepth 20000 in
theorem ST_299 (L : Nat) (xs : Nat → Int32) : pR 8 (MC_298 L xs) (some 116) 2 (some 119) = some (MC_299 L xs) := pR_of (by unfold g_k; rw [KC_298]; rfl)
theorem KC_299 (L : Nat) (xs : Nat → Int32) : (MC_299 L xs).1 = (g_K0 L).take 120 := (mR_K (MC_298 L xs) _ _ _).trans (KC_298 L xs)
set_option maxRecDepth 20000 in
theorem LN_299 (L : Nat) (xs : Nat → Int32) : (MC_299 L xs).1.length = 120 := by rw [KC_299]; rfl
def RC_299 : Nat → Nat → Option Nat := g_up RC_298 116 2 (some 119)
theorem RR_299 (L : Nat) (xs : Nat → Int32) : (MC_299 L xs).2.2.2 = RC_299 := mR_Rr (RR_298 L xs)
theorem II_299 (L : Nat) (xs : Nat → Int32) : ∀ i, i ≠ 0 → (MC_299 L xs).2.1 i = IC_298 i := mR_In (II_298 L xs)
theorem LL_299 (L : Nat) (xs : Nat → Int32) : ∀ i k, (MC_299 L xs).2.2.1 i k = 0 := mR_Ln (LL_298 L xs)
def MC_300 (L : Nat) (xs : Nat → Int32) : gM := nw (20, 7) (MC_299 L xs)
theorem NW_300 (L : Nat) (xs : Nat → Int32) : nw (20, 7) (MC_299 L xs) = MC_300 L xs := rfl
set_option maxRecDepth 20000 in
theorem KC_300 (L : Nat) (xs : Nat → Int32) : (MC_300 L xs).1 = (g_K0 L).take 121 := (nw_K _ (MC_299 L xs)).trans (by rw [KC_299]; rfl)
set_option maxRecDepth 20000 in
theorem LN_300 (L : Nat) (xs : Nat → Int32) : (MC_300 L xs).1.length = 121 := by rw [KC_300]; rfl
def RC_300 : Nat → Nat → Option Nat := g_row RC_299 120 (fun _ => none)
theorem RR_300 (L : Nat) (xs : Nat → Int32) : (MC_300 L xs).2.2.2 = RC_300 := nw_R (LN_299 L xs) (RR_299 L xs)
def IC_300 : Nat → Nat → Int32 := g_row IC_298 120 (fun _ => 0)
theorem II_300 (L : Nat) (xs : Nat → Int32) : ∀ i, i ≠ 0 → (MC_300 L xs).2.1 i = IC_300 i := nw_I (LN_299 L xs) (II_299 L xs)
theorem LL_300 (L : Nat) (xs : Nat → Int32) : ∀ i k, (MC_300 L xs).2.2.1 i k = 0 := nw_L (LL_299 L xs)
def MC_301 (L : Nat) (xs : Nat → Int32) : gM := mR (MC_300 L xs) 116 3 (some 120)
set_option maxRecDepth 20000 in
theorem ST_301 (L : Nat) (xs : Nat → Int32) : pR 8 (MC_300 L xs) (some 116) 3 (some 120) = some (MC_301 L xs) := pR_of (by unfold g_k; rw [KC_300]; rfl)
theorem KC_301 (L : Nat) (xs : Nat → Int32) : (MC_301 L xs).1 = (g_K0 L).take 121 := (mR_K (MC_300 L xs) _ _ _).trans (KC_300 L xs)
set_option maxRecDepth 20000 in
theorem LN_301 (L : Nat) (xs : Nat → Int32) : (MC_301 L xs).1.length = 121 := by rw [KC_301]; rfl
def RC_301 : Nat → Nat → Option Nat := g_up RC_300 116 3 (some 120)
theorem RR_301 (L : Nat) (xs : Nat → Int32) : (MC_301 L xs).2.2.2 = RC_301 := mR_Rr (RR_300 L xs)
theorem II_301 (L : Nat) (xs : Nat → Int32) : ∀ i, i ≠ 0 → (MC_301 L xs).2.1 i = IC_300 i := mR_In (II_300 L xs)
theorem LL_301 (L : Nat) (xs : Nat → Int32) : ∀ i k, (MC_301 L xs).2.2.1 i k = 0 := mR_Ln (LL_300 L xs)
def MC_302 (L : Nat) (xs : Nat → Int32) : gM := mI (MC_301 L xs) 116 4 (0 : Int32)
set_option maxRecDepth 20000 in
theorem ST_302 (L : Nat) (xs : Nat → Int32) : pI 8 (MC_301 L xs) (some 116) 4 (0 : Int32) = some (MC_302 L xs) := pI_of (by unfold g_k; rw [KC_301]; rfl)
theorem KC_302 (L : Nat) (xs : Nat → Int32) : (MC_302 L xs).1 = (g_K0 L).take 121 := (mI_K (MC_301 L xs) _ _ _).trans (KC_301 L xs)
set_option maxRecDepth 20000 in
theorem LN_302 (L : Nat) (xs : Nat → Int32) : (MC_302 L xs).1.length = 121 := by rw [KC_302]; rfl
theorem RR_302 (L : Nat) (xs : Nat → Int32) : (MC_302 L xs).2.2.2 = RC_301 := (mI_Rn (MC_301 L xs) _ _ _).trans (RR_301 L xs)
def IC_302 : Nat → Nat → Int32 := g_up IC_300 116 4 (0)
theorem II_302 (L : Nat) (xs : Nat → Int32) : ∀ i, i ≠ 0 → (MC_302 L xs).2.1 i = IC_302 i := mI_I (II_301 L xs)
theorem LL_302 (L : Nat) (xs : Nat → Int32) : ∀ i k, (MC_302 L xs).2.2.1 i k = 0 := mI_Ln (LL_301 L xs)
def MC_303 (L : Nat) (xs : Nat → Int32) : gM := mI (MC_302 L xs) 116 5 (0 : Int32)
set_option maxRecDepth 20000 in
theorem ST_303 (L : Nat) (xs : Nat → Int32) : pI 8 (MC_302 L xs) (some 116) 5 (0 : Int32) = some (MC_303 L xs) := pI_of (by unfold g_k; rw [KC_302]; rfl)
theorem KC_303 (L : Nat) (xs : Nat → Int32) : (MC_303 L xs).1 = (g_K0 L).take 121 := (mI_K (MC_302 L xs) _ _ _).trans (KC_302 L xs)
set_option maxRecDepth 20000 in
theorem LN_303 (L : Nat) (xs : Nat → Int32) : (MC_303 L xs).1.length = 121 := by rw [KC_303]; rfl
theorem RR_303 (L : Nat) (xs : Nat → Int32) : (MC_303 L xs).2.2.2 = RC_301 := (mI_Rn (MC_302 L xs) _ _ _).trans (RR_302 L xs)
def IC_303 : Nat → Nat → Int32 := g_up IC_302 116 5 (0)
theorem II_303 (L : Nat) (xs : Nat → Int32) : ∀ i, i ≠ 0 → (MC_303 L xs).2.1 i = IC_303 i := mI_I (II_302 L xs)
theorem LL_303 (L : Nat) (xs : Nat → Int32) : ∀ i k, (MC_303 L xs).2.2.1 i k = 0 := mI_Ln (LL_302 L xs)
def MC_304 (L : Nat) (xs : Nat → Int32) : gM := mI (MC_303 L xs) 116 6 (0 : Int32)
set_option maxRecDepth 20000 in
theorem ST_304 (L : Nat) (xs : Nat → Int32) : pI 8 (MC_303 L xs) (some 116) 6 (0 : Int32) = some (MC_304 L xs) := pI_of (by unfold g_k; rw [KC_303]; rfl)
theorem KC_304 (L : Nat) (xs : Nat → Int32) : (MC_304 L xs).1 = (g_K0 L).take 121 := (mI_K (MC_303 L xs) _ _ _).trans (KC_303 L xs)
set_option maxRecDepth 20000 in
theorem LN_304 (L : Nat) (xs : Nat → Int32) : (MC_304 L xs).1.length = 121 := by rw [KC_304]; rfl
theorem RR_304 (L : Nat) (xs : Nat → Int32) : (MC_304 L xs).2.2.2 = RC_301 := (mI_Rn (MC_303 L xs) _ _ _).trans (RR_303 L xs)
def IC_304 : Nat → Nat → Int32 := g_up IC_303 116 6 (0)
theorem II_304 (L : Nat) (xs : Nat → Int32) : ∀ i, i ≠ 0 → (MC_304 L xs).2.1 i = IC_304 i := mI_I (II_303 L xs)
theorem LL_304 (L : Nat) (xs : Nat → Int32) : ∀ i k, (MC_304 L xs).2.2.1 i k = 0 := mI_Ln (LL_303 L xs)
def MC_305 (L : Nat) (xs : Nat → Int32) : gM := mR (MC_304 L xs) 20 19 (some 116)
set_option maxRecDepth 20000 in
theorem ST_305 (L : Nat) (xs : Nat → Int32) : sR 24 (MC_304 L xs) (some 20) (19 : Int32) (some 116) = some (MC_305 L xs) := sR_of (n := 20) (by unfold g_k; rw [KC_304]; rfl) (by unfold g_k; rw [KC_304]; rfl) (by decide) (by decide)
theorem KC_305 (L : Nat) (xs : Nat → Int32) : (MC_305 L xs).1 = (g_K0 L).take 121 := (mR_K (MC_304 L xs) _ _ _).trans (KC_304 L xs)
set_option maxRecDepth 20000 in
theorem LN_305 (L : Nat) (xs : Nat → Int32) : (MC_305 L xs).1.length = 121 := by rw [KC_305]; rfl
def RC_305 : Nat → Nat → Option Nat := g_up RC_301 20 19 (some 116)
theorem RR_305 (L : Nat) (xs : Nat → Int32) : (MC_305 L xs).2.2.2 = RC_305 := mR_Rr (RR_304 L xs)
theorem II_305 (L : Nat) (xs : Nat → Int32) : ∀ i, i ≠ 0 → (MC_305 L xs).2.1 i = IC_304 i := mR_In (II_304 L xs)
theorem LL_305 (L : Nat) (xs : Nat → Int32) : ∀ i k, (MC_305 L xs).2.2.1 i k = 0 := mR_Ln (LL_304 L xs)
def MC_306 (L : Nat) (xs : Nat → Int32) : gM := mR (MC_305 L xs) 2 7 (some 19)
set_option maxRecDepth 20000 in
theorem ST_306 (L : Nat) (xs : Nat → Int32) : pR 11 (MC_305 L xs) (some 2) 7 (some 19) = some (MC_306 L xs) := pR_of (by unfold g_k; rw [KC_305]; rfl)
theorem KC_306 (L : Nat) (xs : Nat → Int32) : (MC_306 L xs).1 = (g_K0 L).take 121 := (mR_K (MC_305 L xs) _ _ _).trans (KC_305 L xs)
set_option maxRecDepth 20000 in
theorem LN_306 (L : Nat) (xs : Nat → Int32) : (MC_306 L xs).1.length = 121 := by rw [KC_306]; rfl
def RC_306 : Nat → Nat → Option Nat := g_up RC_305 2 7 (some 19)
theorem RR_306 (L : Nat) (xs : Nat → Int32) : (MC_306 L xs).2.2.2 = RC_306 := mR_Rr (RR_305 L xs)
theorem II_306 (L : Nat) (xs : Nat → Int32) : ∀ i, i ≠ 0 → (MC_306 L xs).2.1 i = IC_304 i := mR_In (II_305 L xs)
theorem LL_306 (L : Nat) (xs : Nat → Int32) : ∀ i k, (MC_306 L xs).2.2.1 i k = 0 := mR_Ln (LL_305 L xs)
def MC_307 (L : Nat) (xs : Nat → Int32) : gM := nw (26, 4) (MC_306 L xs)
theorem NW_307 (L : Nat) (xs : Nat → Int32) : nw (26, 4) (MC_306 L xs) = MC_307 L xs := rfl
set_option maxRecDepth 20000 in
theorem KC_307 (L : Nat) (xs : Nat → Int32) : (MC_307 L xs).1 = (g_K0 L).take 122 := (nw_K _ (MC_306 L xs)).trans (by rw [KC_306]; rfl)
set_option maxRecDepth 20000 in
theorem LN_307 (L : Nat) (xs : Nat → Int32) : (MC_307 L xs).1.length = 122 := by rw [KC_307]; rfl
def RC_307 : Nat → Nat → Option Nat := g_row RC_306 121 (fun _ => none)
theorem RR_307 (L : Nat) (xs : Nat → Int32) : (MC_307 L xs).2.2.2 = RC_307 := nw_R (LN_306 L xs) (RR_306 L xs)
def IC_307 : Nat → Nat → Int32 := g_row IC_304 121 (fun _ => 0)
theorem II_307 (L : Nat) (xs : Nat → Int32) : ∀ i, i ≠ 0 → (MC_307 L xs).2.1 i = IC_307 i := nw_I (LN_306 L xs) (II_306 L xs)
theorem LL_307 (L : Nat) (xs : Nat → Int32) : ∀ i k, (MC_307 L xs).2.2.1 i k = 0 := nw_L (LL_306 L xs)
def MC_308 (L : Nat) (xs : Nat → Int32) : gM := mR (MC_307 L xs) 2 8 (some 121)
set_option maxRecDepth 20000 in
theorem ST_308 (L : Nat) (xs : Nat → Int32) : pR 11 (MC_307 L xs) (some 2) 8 (some 121) = some (MC_308 L xs) := pR_of (by unfold g_k; rw [KC_307]; rfl)
theorem KC_308 (L : Nat) (xs : Nat → Int32) : (MC_308 L xs).1 = (g_K0 L).take 122 := (mR_K (MC_307 L xs) _ _ _).trans (KC_307 L xs)
set_option maxRecDepth 20000 in
theorem LN_308 (L : Nat) (xs : Nat → Int32) : (MC_308 L xs).1.length = 122 := by rw [KC_308]; rfl
def RC_308 : Nat → Nat → Option Nat := g_up RC_307 2 8 (some 121)
theorem RR_308 (L : Nat) (xs : Nat → Int32) : (MC_308 L xs).2.2.2 = RC_308 := mR_Rr (RR_307 L xs)
theorem II_308 (L : Nat) (xs : Nat → Int32) : ∀ i, i ≠ 0 → (MC_308 L xs).2.1 i = IC_307 i := mR_In (II_307 L xs)
theorem LL_308 (L : Nat) (xs : Nat → Int32) : ∀ i k, (MC_308 L xs).2.2.1 i k = 0 := mR_Ln (LL_307 L xs)
def MC_309 (L : Nat) (xs : Nat → Int32) : gM := nw (20, 21) (MC_308 L xs)
theorem NW_309 (L : Nat) (xs : Nat → Int32) : nw (20, 21) (MC_308 L xs) = MC_309 L xs := rfl
set_option maxRecDepth 20000 in
theorem KC_309 (L : Nat) (xs : Nat → Int32) : (MC_309 L xs).1 = (g_K0 L).take 123 := (nw_K _ (MC_308 L xs)).trans (by rw [KC_308]; rfl)
set_option maxRecDepth 20000 in
theorem LN_309 (L : Nat) (xs : Nat → Int32) : (MC_309 L xs).1.length = 123 := by rw [KC_309]; rfl
def RC_309 : Nat → Nat → Option Nat := g_row RC_308 122 (fun _ => none)
theorem RR_309 (L : Nat) (xs : Nat → Int32) : (MC_309 L xs).2.2.2 = RC_309 := nw_R (LN_308 L xs) (RR_308 L xs)
def IC_309 : Nat → Nat → Int32 := g_row IC_307 122 (fun _ => 0)
theorem II_309 (L : Nat) (xs : Nat → Int32) : ∀ i, i ≠ 0 → (MC_309 L xs).2.1 i = IC_309 i := nw_I (LN_308 L xs) (II_308 L xs)
theorem LL_309 (L : Nat) (xs : Nat → Int32) : ∀ i k, (MC_309 L xs).2.2.1 i k = 0 := nw_L (LL_308 L xs)
def MC_310 (L : Nat) (xs : Nat → Int32) : gM := mR (MC_309 L xs) 2 9 (some 122)
set_option maxRecDepth 20000 in
theorem ST_310 (L : Nat) (xs : Nat → Int32) : pR 11 (MC_309 L xs) (some 2) 9 (some 122) = some (MC_310 L xs) := pR_of (by unfold g_k; rw [KC_309]; rfl)
theorem KC_310 (L : Nat) (xs : Nat → Int32) : (MC_310 L xs).1 = (g_K0 L).take 123 := (mR_K (MC_309 L xs) _ _ _).trans (KC_309 L xs)
set_option maxRecDepth 20000 in
theorem LN_310 (L : Nat) (xs : Nat → Int32) : (MC_310 L xs).1.length = 123 := by rw [KC_310]; rfl
def RC_310 : Nat → Nat → Option Nat := g_up RC_309 2 9 (some 122)
theorem RR_310 (L : Nat) (xs : Nat → Int32) : (MC_310 L xs).2.2.2 = RC_310 := mR_Rr (RR_309 L xs)
theorem II_310 (L : Nat) (xs : Nat → Int32) : ∀ i, i ≠ 0 → (MC_310 L xs).2.1 i = IC_309 i := mR_In (II_309 L xs)
theorem LL_310 (L : Nat) (xs : Nat → Int32) : ∀ i k, (MC_310 L xs).2.2.1 i k = 0 := mR_Ln (LL_309 L xs)
def MC_311 (L : Nat) (xs : Nat → Int32) : gM := nw (0, 0) (MC_310 L xs)
theorem NW_311 (L : Nat) (xs : Nat → Int32) : nw (0, 0) (MC_310 L xs) = MC_311 L xs := rfl
set_option maxRecDepth 20000 in
theorem KC_311 (L : Nat) (xs : Nat → Int32) : (MC_311 L xs).1 = (g_K0 L).take 124 := (nw_K _ (MC_310 L xs)).trans (by rw [KC_310]; rfl)
set_option maxRecDepth 20000 in
theorem LN_311 (L : Nat) (xs : Nat → Int32) : (MC_311 L xs).1.length = 124 := by rw [KC_311]; rfl
def RC_311 : Nat → Nat → Option Nat := g_row RC_310 123 (fun _ => none)
theorem RR_311 (L : Nat) (xs : Nat → Int32) : (MC_311 L xs).2.2.2 = RC_311 := nw_R (LN_310 L xs) (RR_310 L xs)
def IC_311 : Nat → Nat → Int32 := g_row IC_309 123 (fun _ => 0)
theorem II_311 (L : Nat) (xs : Nat → Int32) : ∀ i, i ≠ 0 → (MC_311 L xs).2.1 i = IC_311 i := nw_I (LN_310 L xs) (II_310 L xs)
theorem LL_311 (L : Nat) (xs : Nat → Int32) : ∀ i k, (MC_311 L xs).2.2.1 i k = 0 := nw_L (LL_310 L xs)
def MC_312 (L : Nat) (xs : Nat → Int32) : gM := nw (21, 49) (MC_311 L xs)
theorem NW_312 (L : Nat) (xs : Nat → Int32) : nw (21, 49) (MC_311 L xs) = MC_312 L xs := rfl
set_option maxRecDepth 20000 in
theorem KC_312 (L : Nat) (xs : Nat → Int32) : (MC_312 L xs).1 = (g_K0 L).take 125 := (nw_K _ (MC_311 L xs)).trans (by rw [KC_311]; rfl)
set_option maxRecDepth 20000 in
theorem LN_312 (L : Nat) (xs : Nat → Int32) : (MC_312 L xs).1.length = 125 := by rw [KC_312]; rfl
def RC_312 : Nat → Nat → Option Nat := g_row RC_311 124 (fun _ => none)
theorem RR_312 (L : Nat) (xs : Nat → Int32) : (MC_312 L xs).2.2.2 = RC_312 := nw_R (LN_311 L xs) (RR_311 L xs)
def IC_312 : Nat → Nat → Int32 := g_row IC_311 124 (fun _ => 0)
theorem II_312 (L : Nat) (xs : Nat → Int32) : ∀ i, i ≠ 0 → (MC_312 L xs).2.1 i = IC_312 i := nw_I (LN_311 L xs) (II_311 L xs)
theorem LL_312 (L : Nat) (xs : Nat → Int32) : ∀ i k, (MC_312 L xs).2.2.1 i k = 0 := nw_L (LL_311 L xs)
def MC_313 (L : Nat) (xs : Nat → Int32) : gM := mR (MC_312 L xs) 123 0 (some 124)
set_option maxRecDepth 20000 in
theorem ST_313 (L : Nat) (xs : Nat → Int32) : pR 0 (MC_312 L xs) (some 123) 0 (some 124) = some (MC_313 L xs) := pR_of (by unfold g_k; rw [KC_312]; rfl)
theorem KC_313 (L : Nat) (xs : Nat → Int32) : (MC_313 L xs).1 = (g_K0 L).take 125 := (mR_K (MC_312 L xs) _ _ _).trans (KC_312 L xs)
set_option maxRecDepth 20000 in
theorem LN_313 (L : Nat) (xs : Nat → Int32) : (MC_313 L xs).1.length = 125 := by rw [KC_313]; rfl
def RC_313 : Nat → Nat → Option Nat := g_up RC_312 123 0 (some 124)
theorem RR_313 (L : Nat) (xs : Nat → Int32) : (MC_313 L xs).2.2.2 = RC_313 := mR_Rr (RR_312 L xs)
theorem II_313 (L : Nat) (xs : Nat → Int32) : ∀ i, i ≠ 0 → (MC_313 L xs).2.1 i = IC_312 i := mR_In (II_312 L xs)
theorem LL_313 (L : Nat) (xs : Nat → Int32) : ∀ i k, (MC_313 L xs).2.2.1 i k = 0 := mR_Ln (LL_312 L xs)
def MC_314 (L : Nat) (xs : Nat → Int32) : gM := mI (MC_313 L xs) 123 1 (0 : Int32)
set_option maxRecDepth 20000 in
theorem ST_314 (L : Nat) (xs : Nat → Int32) : pI 0 (MC_313 L xs) (some 123) 1 (0 : Int32) = some (MC_314 L xs) := pI_of (by unfold g_k; rw [KC_313]; rfl)
theorem KC_314 (L : Nat) (xs : Nat → Int32) : (MC_314 L xs).1 = (g_K0 L).take 125 := (mI_K (MC_313 L xs) _ _ _).trans (KC_313 L xs)
set_option maxRecDepth 20000 in
theorem LN_314 (L : Nat) (xs : Nat → Int32) : (MC_314 L xs).1.length = 125 := by rw [KC_314]; rfl
theorem RR_314 (L : Nat) (xs : Nat → Int32) : (MC_314 L xs).2.2.2 = RC_313 := (mI_Rn (MC_313 L xs) _ _ _).trans (RR_313 L xs)
def IC_314 : Nat → Nat → Int32 := g_up IC_312 123 1 (0)
theorem II_314 (L : Nat) (xs : Nat → Int32) : ∀ i, i ≠ 0 → (MC_314 L xs).2.1 i = IC_314 i := mI_I (II_313 L xs)
theorem LL_314 (L : Nat) (xs : Nat → Int32) : ∀ i k, (MC_314 L xs).2.2.1 i k = 0 := mI_Ln (LL_313 L xs)
def MC_315 (L : Nat) (xs : Nat → Int32) : gM := mR (MC_314 L xs) 2 10 (some 123)
set_option maxRecDepth 20000 in
theorem ST_315 (L : Nat) (xs : Nat → Int32) : pR 11 (MC_314 L xs) (some 2) 10 (some 123) = some (MC_315 L xs) := pR_of (by unfold g_k; rw [KC_314]; rfl)
theorem KC_315 (L : Nat) (xs : Nat → Int32) : (MC_315 L xs).1 = (g_K0 L).take 125 := (mR_K (MC_314 L xs) _ _ _).trans (KC_314 L xs)
set_option maxRecDepth 20000 in
theorem LN_315 (L : Nat) (xs : Nat → Int32) : (MC_315 L xs).1.length = 125 := by rw [KC_315]; rfl
def RC_315 : Nat → Nat → Option Nat := g_up RC_313 2 10 (some 123)
theorem RR_315 (L : Nat) (xs : Nat → Int32) : (MC_315 L xs).2.2.2 = RC_315 := mR_Rr (RR_314 L xs)
theorem II_315 (L : Nat) (xs : Nat → Int32) : ∀ i, i ≠ 0 → (MC_315 L xs).2.1 i = IC_314 i := mR_In (II_314 L xs)
theorem LL_315 (L : Nat) (xs : Nat → Int32) : ∀ i k, (MC_315 L xs).2.2.1 i k = 0 := mR_Ln (LL_314 L xs)
def MC_316 (L : Nat) (xs : Nat → Int32) : gM := nw (1, 0) (MC_315 L xs)
theorem NW_316 (L : Nat) (xs : Nat → Int32) : nw (1, 0) (MC_315 L xs) = MC_316 L xs := rfl
set_option maxRecDepth 20000 in
theorem KC_316 (L : Nat) (xs : Nat → Int32) : (MC_316 L xs).1 = (g_K0 L).take 126 := (nw_K _ (MC_315 L xs)).trans (by rw [KC_315]; rfl)
set_option maxRecDepth 20000 in
theorem LN_316 (L : Nat) (xs : Nat → Int32) : (MC_316 L xs).1.length = 126 := by rw [KC_316]; rfl
def RC_316 : Nat → Nat → Option Nat := g_row RC_315 125 (fun _ => none)
theorem RR_316 (L : Nat) (xs : Nat → Int32) : (MC_316 L xs).2.2.2 = RC_316 := nw_R (LN_315 L xs) (RR_315 L xs)
def IC_316 : Nat → Nat → Int32 := g_row IC_314 125 (fun _ => 0)
theorem II_316 (L : Nat) (xs : Nat → Int32) : ∀ i, i ≠ 0 → (MC_316 L xs).2.1 i = IC_316 i := nw_I (LN_315 L xs) (II_315 L xs)
theorem LL_316 (L : Nat) (xs : Nat → Int32) : ∀ i k, (MC_316 L xs).2.2.1 i k = 0 := nw_L (LL_315 L xs)
def MC_317 (L : Nat) (xs : Nat → Int32) : gM := nw (20, 7) (MC_316 L xs)
theorem NW_317 (L : Nat) (xs : Nat → Int32) : nw (20, 7) (MC_316 L xs) = MC_317 L xs := rfl
set_option maxRecDepth 20000 in
theorem KC_317 (L : Nat) (xs : Nat → Int32) : (MC_317 L xs).1 = (g_K0 L).take 127 := (nw_K _ (MC_316 L xs)).trans (by rw [KC_316]; rfl)
set_option maxRecDepth 20000 in
theorem LN_317 (L : Nat) (xs : Nat → Int32) : (MC_317 L xs).1.length = 127 := by rw [KC_317]; rfl
def RC_317 : Nat → Nat → Option Nat := g_row RC_316 126 (fun _ => none)
theorem RR_317 (L : Nat) (xs : Nat → Int32) : (MC_317 L xs).2.2.2 = RC_317 := nw_R (LN_316 L xs) (RR_316 L xs)
def IC_317 : Nat → Nat → Int32 := g_row IC_316 126 (fun _ => 0)
theorem II_317 (L : Nat) (xs : Nat → Int32) : ∀ i, i ≠ 0 → (MC_317 L xs).2.1 i = IC_317 i := nw_I (LN_316 L xs) (II_316 L xs)
theorem LL_317 (L : Nat) (xs : Nat → Int32) : ∀ i k, (MC_317 L xs).2.2.1 i k = 0 := nw_L (LL_316 L xs)
def MC_318 (L : Nat) (xs : Nat → Int32) : gM := mR (MC_317 L xs) 125 0 (some 126)
set_option maxRecDepth 20000 in
theorem ST_318 (L : Nat) (xs : Nat → Int32) : pR 1 (MC_317 L xs) (some 125) 0 (some 126) = some (MC_318 L xs) := pR_of (by unfold g_k; rw [KC_317]; rfl)
theorem KC_318 (L : Nat) (xs : Nat → Int32) : (MC_318 L xs).1 = (g_K0 L).take 127 := (mR_K (MC_317 L xs) _ _ _).trans (KC_317 L xs)
set_option maxRecDepth 20000 in
theorem LN_318 (L : Nat) (xs : Nat → Int32) : (MC_318 L xs).1.length = 127 := by rw [KC_318]; rfl
def RC_318 : Nat → Nat → Option Nat := g_up RC_317 125 0 (some 126)
theorem RR_318 (L : Nat) (xs : Nat → Int32) : (MC_318 L xs).2.2.2 = RC_318 := mR_Rr (RR_317 L xs)
theorem II_318 (L : Nat) (xs : Nat → Int32) : ∀ i, i ≠ 0 → (MC_318 L xs).2.1 i = IC_317 i := mR_In (II_317 L xs)
theorem LL_318 (L : Nat) (xs : Nat → Int32) : ∀ i k, (MC_318 L xs).2.2.1 i k = 0 := mR_Ln (LL_317 L xs)
def MC_319 (L : Nat) (xs : Nat → Int32) : gM := nw (20, 7) (MC_318 L xs)
theorem NW_319 (L : Nat) (xs : Nat → Int32) : nw (20, 7) (MC_318 L xs) = MC_319 L xs := rfl
set_option maxRecDepth 20000 in
theorem KC_319 (L : Nat) (xs : Nat → Int32) : (MC_319 L xs).1 = (g_K0 L).take 128 := (nw_K _ (MC_318 L xs)).trans (by rw [KC_318]; rfl)
set_option maxRecDepth 20000 in
theorem LN_319 (L : Nat) (xs : Nat → Int32) : (MC_319 L xs).1.length = 128 := by rw [KC_319]; rfl
def RC_319 : Nat → Nat → Option Nat := g_row RC_318 127 (fun _ => none)
theorem RR_319 (L : Nat) (xs : Nat → Int32) : (MC_319 L xs).2.2.2 = RC_319 := nw_R (LN_318 L xs) (RR_318 L xs)
def IC_319 : Nat → Nat → Int32 := g_row IC_317 127 (fun _ => 0)
theorem II_319 (L : Nat) (xs : Nat → Int32) : ∀ i, i ≠ 0 → (MC_319 L xs).2.1 i = IC_319 i := nw_I (LN_318 L xs) (II_318 L xs)
theorem LL_319 (L : Nat) (xs : Nat → Int32) : ∀ i k, (MC_319 L xs).2.2.1 i k = 0 := nw_L (LL_318 L xs)
def MC_320 (L : Nat) (xs : Nat → Int32) : gM := mR (MC_319 L xs) 125 1 (some 127)
set_option maxRecDepth 20000 in
theorem ST_320 (L : Nat) (xs : Nat → Int32) : pR 1 (MC_319 L xs) (some 125) 1 (some 127) = some (MC_320 L xs) := pR_of (by unfold g_k; rw [KC_319]; rfl)
theorem KC_320 (L : Nat) (xs : Nat → Int32) : (MC_320 L xs).1 = (g_K0 L).take 128 := (mR_K (MC_319 L xs) _ _ _).trans (KC_319 L xs)
set_option maxRecDepth 20000 in
theorem LN_320 (L : Nat) (xs : Nat → Int32) : (MC_320 L xs).1.length = 128 := by rw [KC_320]; rfl
def RC_320 : Nat → Nat → Option Nat := g_up RC_319 125 1 (some 127)
theorem RR_320 (L : Nat) (xs : Nat → Int32) : (MC_320 L xs).2.2.2 = RC_320 := mR_Rr (RR_319 L xs)
theorem II_320 (L : Nat) (xs : Nat → Int32) : ∀ i, i ≠ 0 → (MC_320 L xs).2.1 i = IC_319 i := mR_In (II_319 L xs)
theorem LL_320 (L : Nat) (xs : Nat → Int32) : ∀ i k, (MC_320 L xs).2.2.1 i k = 0 := mR_Ln (LL_319 L xs)
def MC_321 (L : Nat) (xs : Nat → Int32) : gM := nw (20, 7) (MC_320 L xs)
theorem NW_321 (L : Nat) (xs : Nat → Int32) : nw (20, 7) (MC_320 L xs) = MC_321 L xs := rfl
set_option maxRecDepth 20000 in
theorem KC_321 (L : Nat) (xs : Nat → Int32) : (MC_321 L xs).1 = (g_K0 L).take 129 := (nw_K _ (MC_320 L xs)).trans (by rw [KC_320]; rfl)
set_option maxRecDepth 20000 in
theorem LN_321 (L : Nat) (xs : Nat → Int32) : (MC_321 L xs).1.length = 129 := by rw [KC_321]; rfl
def RC_321 : Nat → Nat → Option Nat := g_row RC_320 128 (fun _ => none)
theorem RR_321 (L : Nat) (xs : Nat → Int32) : (MC_321 L xs).2.2.2 = RC_321 := nw_R (LN_320 L xs) (RR_320 L xs)
def IC_321 : Nat → Nat → Int32 := g_row IC_319 128 (fun _ => 0)
theorem II_321 (L : Nat) (xs : Nat → Int32) : ∀ i, i ≠ 0 → (MC_321 L xs).2.1 i = IC_321 i := nw_I (LN_320 L xs) (II_320 L xs)
theorem LL_321 (L : Nat) (xs : Nat → Int32) : ∀ i k, (MC_321 L xs).2.2.1 i k = 0 := nw_L (LL_320 L xs)
def MC_322 (L : Nat) (xs : Nat → Int32) : gM := mR (MC_321 L xs) 125 2 (some 128)
set_option maxRecDepth 20000 in
theorem ST_322 (L : Nat) (xs : Nat → Int32) : pR 1 (MC_321 L xs) (some 125) 2 (some 128) = some (MC_322 L xs) := pR_of (by unfold g_k; rw [KC_321]; rfl)
theorem KC_322 (L : Nat) (xs : Nat → Int32) : (MC_322 L xs).1 = (g_K0 L).take 129 := (mR_K (MC_321 L xs) _ _ _).trans (KC_321 L xs)
set_option maxRecDepth 20000 in
theorem LN_322 (L : Nat) (xs : Nat → Int32) : (MC_322 L xs).1.length = 129 := by rw [KC_322]; rfl
def RC_322 : Nat → Nat → Option Nat := g_up RC_321 125 2 (some 128)
theorem RR_322 (L : Nat) (xs : Nat → Int32) : (MC_322 L xs).2.2.2 = RC_322 := mR_Rr (RR_321 L xs)
theorem II_322 (L : Nat) (xs : Nat → Int32) : ∀ i, i ≠ 0 → (MC_322 L xs).2.1 i = IC_321 i := mR_In (II_321 L xs)
theorem LL_322 (L : Nat) (xs : Nat → Int32) : ∀ i k, (MC_322 L xs).2.2.1 i k = 0 := mR_Ln (LL_321 L xs)
def MC_323 (L : Nat) (xs : Nat → Int32) : gM := nw (20, 7) (MC_322 L xs)
theorem NW_323 (L : Nat) (xs : Nat → Int32) : nw (20, 7) (MC_322 L xs) = MC_323 L xs := rfl
set_option maxRecDepth 20000 in
theorem KC_323 (L : Nat) (xs : Nat → Int32) : (MC_323 L xs).1 = (g_K0 L).take 130 := (nw_K _ (MC_322 L xs)).trans (by rw [KC_322]; rfl)
set_option maxRecDepth 20000 in
theorem LN_323 (L : Nat) (xs : Nat → Int32) : (MC_323 L xs).1.length = 130 := by rw [KC_323]; rfl
def RC_323 : Nat → Nat → Option Nat := g_row RC_322 129 (fun _ => none)
theorem RR_323 (L : Nat) (xs : Nat → Int32) : (MC_323 L xs).2.2.2 = RC_323 := nw_R (LN_322 L xs) (RR_322 L xs)
def IC_323 : Nat → Nat → Int32 := g_row IC_321 129 (fun _ => 0)
theorem II_323 (L : Nat) (xs : Nat → Int32) : ∀ i, i ≠ 0 → (MC_323 L xs).2.1 i = IC_323 i := nw_I (LN_322 L xs) (II_322 L xs)
theorem LL_323 (L : Nat) (xs : Nat → Int32) : ∀ i k, (MC_323 L xs).2.2.1 i k = 0 := nw_L (LL_322 L xs)
def MC_324 (L : Nat) (xs : Nat → Int32) : gM := mR (MC_323 L xs) 125 3 (some 129)
set_option maxRecDepth 20000 in
theorem ST_324 (L : Nat) (xs : Nat → Int32) : pR 1 (MC_323 L xs) (some 125) 3 (some 129) = some (MC_324 L xs) := pR_of (by unfold g_k; rw [KC_323]; rfl)
theorem KC_324 (L : Nat) (xs : Nat → Int32) : (MC_324 L xs).1 = (g_K0 L).take 130 := (mR_K (MC_323 L xs) _ _ _).trans (KC_323 L xs)
set_option maxRecDepth 20000 in
theorem LN_324 (L : Nat) (xs : Nat → Int32) : (MC_324 L xs).1.length = 130 := by rw [KC_324]; rfl
def RC_324 : Nat → Nat → Option Nat := g_up RC_323 125 3 (some 129)
theorem RR_324 (L : Nat) (xs : Nat → Int32) : (MC_324 L xs).2.2.2 = RC_324 := mR_Rr (RR_323 L xs)
theorem II_324 (L : Nat) (xs : Nat → Int32) : ∀ i, i ≠ 0 → (MC_324 L xs).2.1 i = IC_323 i := mR_In (II_323 L xs)
theorem LL_324 (L : Nat) (xs : Nat → Int32) : ∀ i k, (MC_324 L xs).2.2.1 i k = 0 := mR_Ln (LL_323 L xs)
def MC_325 (L : Nat) (xs : Nat → Int32) : gM := nw (20, 7) (MC_324 L xs)
theorem NW_325 (L : Nat) (xs : Nat → Int32) : nw (20, 7) (MC_324 L xs) = MC_325 L xs := rfl
set_option maxRecDepth 20000 in
theorem KC_325 (L : Nat) (xs : Nat → Int32) : (MC_325 L xs).1 = (g_K0 L).take 131 := (nw_K _ (MC_324 L xs)).trans (by rw [KC_324]; rfl)
set_option maxRecDepth 20000 in
theorem LN_325 (L : Nat) (xs : Nat → Int32) : (MC_325 L xs).1.length = 131 := by rw [KC_325]; rfl
def RC_325 : Nat → Nat → Option Nat := g_row RC_324 130 (fun _ => none)
theorem RR_325 (L : Nat) (xs : Nat → Int32) : (MC_325 L xs).2.2.2 = RC_325 := nw_R (LN_324 L xs) (RR_324 L xs)
def IC_325 : Nat → Nat → Int32 := g_row IC_323 130 (fun _ => 0)
theorem II_325 (L : Nat) (xs : Nat → Int32) : ∀ i, i ≠ 0 → (MC_325 L xs).2.1 i = IC_325 i := nw_I (LN_324 L xs) (II_324 L xs)
theorem LL_325 (L : Nat) (xs : Nat → Int32) : ∀ i k, (MC_325 L xs).2.2.1 i k = 0 := nw_L (LL_324 L xs)
def MC_326 (L : Nat) (xs : Nat → Int32) : gM := mR (MC_325 L xs) 125 4 (some 130)
set_option maxRecDepth 20000 in
theorem ST_326 (L : Nat) (xs : Nat → Int32) : pR 1 (MC_325 L xs) (some 125) 4 (some 130) = some (MC_326 L xs) := pR_of (by unfold g_k; rw [KC_325]; rfl)
theorem KC_326 (L : Nat) (xs : Nat → Int32) : (MC_326 L xs).1 = (g_K0 L).take 131 := (mR_K (MC_325 L xs) _ _ _).trans (KC_325 L xs)
set_option maxRecDepth 20000 in
theorem LN_326 (L : Nat) (xs : Nat → Int32) : (MC_326 L xs).1.length = 131 := by rw [KC_326]; rfl
def RC_326 : Nat → Nat → Option Nat := g_up RC_325 125 4 (some 130)
theorem RR_326 (L : Nat) (xs : Nat → Int32) : (MC_326 L xs).2.2.2 = RC_326 := mR_Rr (RR_325 L xs)
theorem II_326 (L : Nat) (xs : Nat → Int32) : ∀ i, i ≠ 0 → (MC_326 L xs).2.1 i = IC_325 i := mR_In (II_325 L xs)
theorem LL_326 (L : Nat) (xs : Nat → Int32) : ∀ i k, (MC_326 L xs).2.2.1 i k = 0 := mR_Ln (LL_325 L xs)
def MC_327 (L : Nat) (xs : Nat → Int32) : gM := mI (MC_326 L xs) 125 5 (0 : Int32)
set_option maxRecDepth 20000 in
theorem ST_327 (L : Nat) (xs : Nat → Int32) : pI 1 (MC_326 L xs) (some 125) 5 (0 : Int32) = some (MC_327 L xs) := pI_of (by unfold g_k; rw [KC_326]; rfl)
theorem KC_327 (L : Nat) (xs : Nat → Int32) : (MC_327 L xs).1 = (g_K0 L).take 131 := (mI_K (MC_326 L xs) _ _ _).trans (KC_326 L xs)
set_option maxRecDepth 20000 in
theorem LN_327 (L : Nat) (xs : Nat → Int32) : (MC_327 L xs).1.length = 131 := by rw [KC_327]; rfl
theorem RR_327 (L : Nat) (xs : Nat → Int32) : (MC_327 L xs).2.2.2 = RC_326 := (mI_Rn (MC_326 L xs) _ _ _).trans (RR_326 L xs)
def IC_327 : Nat → Nat → Int32 := g_up IC_325 125 5 (0)
theorem II_327 (L : Nat) (xs : Nat → Int32) : ∀ i, i ≠ 0 → (MC_327 L xs).2.1 i = IC_327 i := mI_I (II_326 L xs)
theorem LL_327 (L : Nat) (xs : Nat → Int32) : ∀ i k, (MC_327 L xs).2.2.1 i k = 0 := mI_Ln (LL_326 L xs)
def MC_328 (L : Nat) (xs : Nat → Int32) : gM := mI (MC_327 L xs) 125 6 (0 : Int32)
set_option maxRecDepth 20000 in
theorem ST_328 (L : Nat) (xs : Nat → Int32) : pI 1 (MC_327 L xs) (some 125) 6 (0 : Int32) = some (MC_328 L xs) := pI_of (by unfold g_k; rw [KC_327]; rfl)
theorem KC_328 (L : Nat) (xs : Nat → Int32) : (MC_328 L xs).1 = (g_K0 L).take 131 := (mI_K (MC_327 L xs) _ _ _).trans (KC_327 L xs)
set_option maxRecDepth 20000 in
theorem LN_328 (L : Nat) (xs : Nat → Int32) : (MC_328 L xs).1.length = 131 := by rw [KC_328]; rfl
theorem RR_328 (L : Nat) (xs : Nat → Int32) : (MC_328 L xs).2.2.2 = RC_326 := (mI_Rn (MC_327 L xs) _ _ _).trans (RR_327 L xs)
def IC_328 : Nat → Nat → Int32 := g_up IC_327 125 6 (0)
theorem II_328 (L : Nat) (xs : Nat → Int32) : ∀ i, i ≠ 0 → (MC_328 L xs).2.1 i = IC_328 i := mI_I (II_327 L xs)
theorem LL_328 (L : Nat) (xs : Nat → Int32) : ∀ i k, (MC_328 L xs).2.2.1 i k = 0 := mI_Ln (LL_327 L xs)
def MC_329 (L : Nat) (xs : Nat → Int32) : gM := mI (MC_328 L xs) 125 7 (0 : Int32)
set_option maxRecDepth 20000 in
theorem ST_329 (L : Nat) (xs : Nat → Int32) : pI 1 (MC_328 L xs) (some 125) 7 (0 : Int32) = some (MC_329 L xs) := pI_of (by unfold g_k; rw [KC_328]; rfl)
theorem KC_329 (L : Nat) (xs : Nat → Int32) : (MC_329 L xs).1 = (g_K0 L).take 131 := (mI_K (MC_328 L xs) _ _ _).trans (KC_328 L xs)
set_option maxRecDepth 20000 in
theorem LN_329 (L : Nat) (xs : Nat → Int32) : (MC_329 L xs).1.length = 131 := by rw [KC_329]; rfl
theorem RR_329 (L : Nat) (xs : Nat → Int32) : (MC_329 L xs).2.2.2 = RC_326 := (mI_Rn (MC_328 L xs) _ _ _).trans (RR_328 L xs)
def IC_329 : Nat → Nat → Int32 := g_up IC_328 125 7 (0)
theorem II_329 (L : Nat) (xs : Nat → Int32) : ∀ i, i ≠ 0 → (MC_329 L xs).2.1 i = IC_329 i := mI_I (II_328 L xs)
theorem LL_329 (L : Nat) (xs : Nat → Int32) : ∀ i k, (MC_329 L xs).2.2.1 i k = 0 := mI_Ln (LL_328 L xs)
def MC_330 (L : Nat) (xs : Nat → Int32) : gM := mI (MC_329 L xs) 125 8 (0 : Int32)
set_option maxRecDepth 20000 in
theorem ST_330 (L : Nat) (xs : Nat → Int32) : pI 1 (MC_329 L xs) (some 125) 8 (0 : Int32) = some (MC_330 L xs) := pI_of (by unfold g_k; rw [KC_329]; rfl)
theorem KC_330 (L : Nat) (xs : Nat → Int32) : (MC_330 L xs).1 = (g_K0 L).take 131 := (mI_K (MC_329 L xs) _ _ _).trans (KC_329 L xs)
set_option maxRecDepth 20000 in
theorem LN_330 (L : Nat) (xs : Nat → Int32) : (MC_330 L xs).1.length = 131 := by rw [KC_330]; rfl
theorem RR_330 (L : Nat) (xs : Nat → Int32) : (MC_330 L xs).2.2.2 = RC_326 := (mI_Rn (MC_329 L xs) _ _ _).trans (RR_329 L xs)
def IC_330 : Nat → Nat → Int32 := g_up IC_329 125 8 (0)
theorem II_330 (L : Nat) (xs : Nat → Int32) : ∀ i, i ≠ 0 → (MC_330 L xs).2.1 i = IC_330 i := mI_I (II_329 L xs)
theorem LL_330 (L : Nat) (xs : Nat → Int32) : ∀ i k, (MC_330 L xs).2.2.1 i k = 0 := mI_Ln (LL_329 L xs)
def MC_331 (L : Nat) (xs : Nat → Int32) : gM := mI (MC_330 L xs) 125 9 (0 : Int32)
set_option maxRecDepth 20000 in
theorem ST_331 (L : Nat) (xs : Nat → Int32) : pI 1 (MC_330 L xs) (some 125) 9 (0 : Int32) = some (MC_331 L xs) := pI_of (by unfold g_k; rw [KC_330]; rfl)
theorem KC_331 (L : Nat) (xs : Nat → Int32) : (MC_331 L xs).1 = (g_K0 L).take 131 := (mI_K (MC_330 L xs) _ _ _).trans (KC_330 L xs)
set_option maxRecDepth 20000 in
theorem LN_331 (L : Nat) (xs : Nat → Int32) : (MC_331 L xs).1.length = 131 := by rw [KC_331]; rfl
theorem RR_331 (L : Nat) (xs : Nat → Int32) : (MC_331 L xs).2.2.2 = RC_326 := (mI_Rn (MC_330 L xs) _ _ _).trans (RR_330 L xs)
def IC_331 : Nat → Nat → Int32 := g_up IC_330 125 9 (0)
theorem II_331 (L : Nat) (xs : Nat → Int32) : ∀ i, i ≠ 0 → (MC_331 L xs).2.1 i = IC_331 i := mI_I (II_330 L xs)
theorem LL_331 (L : Nat) (xs : Nat → Int32) : ∀ i k, (MC_331 L xs).2.2.1 i k = 0 := mI_Ln (LL_330 L xs)
def MC_332 (L : Nat) (xs : Nat → Int32) : gM := mI (MC_331 L xs) 125 10 (0 : Int32)
set_option maxRecDepth 20000 in
theorem ST_332 (L : Nat) (xs : Nat → Int32) : pI 1 (MC_331 L xs) (some 125) 10 (0 : Int32) = some (MC_332 L xs) := pI_of (by unfold g_k; rw [KC_331]; rfl)
theorem KC_332 (L : Nat) (xs : Nat → Int32) : (MC_332 L xs).1 = (g_K0 L).take 131 := (mI_K (MC_331 L xs) _ _ _).trans (KC_331 L xs)
set_option maxRecDepth 20000 in
theorem LN_332 (L : Nat) (xs : Nat → Int32) : (MC_332 L xs).1.length = 131 := by rw [KC_332]; rfl
theorem RR_332 (L : Nat) (xs : Nat → Int32) : (MC_332 L xs).2.2.2 = RC_326 := (mI_Rn (MC_331 L xs) _ _ _).trans (RR_331 L xs)
def IC_332 : Nat → Nat → Int32 := g_up IC_331 125 10 (0)
theorem II_332 (L : Nat) (xs : Nat → Int32) : ∀ i, i ≠ 0 → (MC_332 L xs).2.1 i = IC_332 i := mI_I (II_331 L xs)
theorem LL_332 (L : Nat) (xs : Nat → Int32) : ∀ i k, (MC_332 L xs).2.2.1 i k = 0 := mI_Ln (LL_331 L xs)
def MC_333 (L : Nat) (xs : Nat → Int32) : gM := mR (MC_332 L xs) 2 11 (some 125)
set_option maxRecDepth 20000 in
theorem ST_333 (L : Nat) (xs : Nat → Int32) : pR 11 (MC_332 L xs) (some 2) 11 (some 125) = some (MC_333 L xs) := pR_of (by unfold g_k; rw [KC_332]; rfl)
theorem KC_333 (L : Nat) (xs : Nat → Int32) : (MC_333 L xs).1 = (g_K0 L).take 131 := (mR_K (MC_332 L xs) _ _ _).trans (KC_332 L xs)
set_option maxRecDepth 20000 in
theorem LN_333 (L : Nat) (xs : Nat → Int32) : (MC_333 L xs).1.length = 131 := by rw [KC_333]; rfl
def RC_333 : Nat → Nat → Option Nat := g_up RC_326 2 11 (some 125)
theorem RR_333 (L : Nat) (xs : Nat → Int32) : (MC_333 L xs).2.2.2 = RC_333 := mR_Rr (RR_332 L xs)
theorem II_333 (L : Nat) (xs : Nat → Int32) : ∀ i, i ≠ 0 → (MC_333 L xs).2.1 i = IC_332 i := mR_In (II_332 L xs)
theorem LL_333 (L : Nat) (xs : Nat → Int32) : ∀ i k, (MC_333 L xs).2.2.1 i k = 0 := mR_Ln (LL_332 L xs)
def MC_334 (L : Nat) (xs : Nat → Int32) : gM := mI (MC_333 L xs) 2 12 (0 : Int32)
set_option maxRecDepth 20000 in
theorem ST_334 (L : Nat) (xs : Nat → Int32) : pI 11 (MC_333 L xs) (some 2) 12 (0 : Int32) = some (MC_334 L xs) := pI_of (by unfold g_k; rw [KC_333]; rfl)
theorem KC_334 (L : Nat) (xs : Nat → Int32) : (MC_334 L xs).1 = (g_K0 L).take 131 := (mI_K (MC_333 L xs) _ _ _).trans (KC_333 L xs)
set_option maxRecDepth 20000 in
theorem LN_334 (L : Nat) (xs : Nat → Int32) : (MC_334 L xs).1.length = 131 := by rw [KC_334]; rfl
theorem RR_334 (L : Nat) (xs : Nat → Int32) : (MC_334 L xs).2.2.2 = RC_333 := (mI_Rn (MC_333 L xs) _ _ _).trans (RR_333 L xs)
def IC_334 : Nat → Nat → Int32 := g_up IC_332 2 12 (0)
theorem II_334 (L : Nat) (xs : Nat → Int32) : ∀ i, i ≠ 0 → (MC_334 L xs).2.1 i = IC_334 i := mI_I (II_333 L xs)
theorem LL_334 (L : Nat) (xs : Nat → Int32) : ∀ i k, (MC_334 L xs).2.2.1 i k = 0 := mI_Ln (LL_333 L xs)
def MC_335 (L : Nat) (xs : Nat → Int32) : gM := mI (MC_334 L xs) 2 13 (-1 : Int32)
set_option maxRecDepth 20000 in
theorem ST_335 (L : Nat) (xs : Nat → Int32) : pI 11 (MC_334 L xs) (some 2) 13 (-1 : Int32) = some (MC_335 L xs) := pI_of (by unfold g_k; rw [KC_334]; rfl)
theorem KC_335 (L : Nat) (xs : Nat → Int32) : (MC_335 L xs).1 = (g_K0 L).take 131 := (mI_K (MC_334 L xs) _ _ _).trans (KC_334 L xs)
set_option maxRecDepth 20000 in
theorem LN_335 (L : Nat) (xs : Nat → Int32) : (MC_335 L xs).1.length = 131 := by rw [KC_335]; rfl
theorem RR_335 (L : Nat) (xs : Nat → Int32) : (MC_335 L xs).2.2.2 = RC_333 := (mI_Rn (MC_334 L xs) _ _ _).trans (RR_334 L xs)
def IC_335 : Nat → Nat → Int32 := g_up IC_334 2 13 (-1)
theorem II_335 (L : Nat) (xs : Nat → Int32) : ∀ i, i ≠ 0 → (MC_335 L xs).2.1 i = IC_335 i := mI_I (II_334 L xs)
theorem LL_335 (L : Nat) (xs : Nat → Int32) : ∀ i k, (MC_335 L xs).2.2.1 i k = 0 := mI_Ln (LL_334 L xs)
def MC_336 (L : Nat) (xs : Nat → Int32) : gM := mI (MC_335 L xs) 2 14 (0 : Int32)
set_option maxRecDepth 20000 in
theorem ST_336 (L : Nat) (xs : Nat → Int32) : pI 11 (MC_335 L xs) (some 2) 14 (0 : Int32) = some (MC_336 L xs) := pI_of (by unfold g_k; rw [KC_335]; rfl)
theorem KC_336 (L : Nat) (xs : Nat → Int32) : (MC_336 L xs).1 = (g_K0 L).take 131 := (mI_K (MC_335 L xs) _ _ _).trans (KC_335 L xs)
set_option maxRecDepth 20000 in
theorem LN_336 (L : Nat) (xs : Nat → Int32) : (MC_336 L xs).1.length = 131 := by rw [KC_336]; rfl
theorem RR_336 (L : Nat) (xs : Nat → Int32) : (MC_336 L xs).2.2.2 = RC_333 := (mI_Rn (MC_335 L xs) _ _ _).trans (RR_335 L xs)
def IC_336 : Nat → Nat → Int32 := g_up IC_335 2 14 (0)
theorem II_336 (L : Nat) (xs : Nat → Int32) : ∀ i, i ≠ 0 → (MC_336 L xs).2.1 i = IC_336 i := mI_I (II_335 L xs)
theorem LL_336 (L : Nat) (xs : Nat → Int32) : ∀ i k, (MC_336 L xs).2.2.1 i k = 0 := mI_Ln (LL_335 L xs)
def MC_337 (L : Nat) (xs : Nat → Int32) : gM := nw (9, 0) (MC_336 L xs)
theorem NW_337 (L : Nat) (xs : Nat → Int32) : nw (9, 0) (MC_336 L xs) = MC_337 L xs := rfl
set_option maxRecDepth 20000 in
theorem KC_337 (L : Nat) (xs : Nat → Int32) : (MC_337 L xs).1 = (g_K0 L).take 132 := (nw_K _ (MC_336 L xs)).trans (by rw [KC_336]; rfl)
set_option maxRecDepth 20000 in
theorem LN_337 (L : Nat) (xs : Nat → Int32) : (MC_337 L xs).1.length = 132 := by rw [KC_337]; rfl
def RC_337 : Nat → Nat → Option Nat := g_row RC_333 131 (fun _ => none)
theorem RR_337 (L : Nat) (xs : Nat → Int32) : (MC_337 L xs).2.2.2 = RC_337 := nw_R (LN_336 L xs) (RR_336 L xs)
def IC_337 : Nat → Nat → Int32 := g_row IC_336 131 (fun _ => 0)
theorem II_337 (L : Nat) (xs : Nat → Int32) : ∀ i, i ≠ 0 → (MC_337 L xs).2.1 i = IC_337 i := nw_I (LN_336 L xs) (II_336 L xs)
theorem LL_337 (L : Nat) (xs : Nat → Int32) : ∀ i k, (MC_337 L xs).2.2.1 i k = 0 := nw_L (LL_336 L xs)
def MC_338 (L : Nat) (xs : Nat → Int32) : gM := nw (22, 400) (MC_337 L xs)
theorem NW_338 (L : Nat) (xs : Nat → Int32) : nw (22, 400) (MC_337 L xs) = MC_338 L xs := rfl
set_option maxRecDepth 20000 in
theorem KC_338 (L : Nat) (xs : Nat → Int32) : (MC_338 L xs).1 = (g_K0 L).take 133 := (nw_K _ (MC_337 L xs)).trans (by rw [KC_337]; rfl)
set_option maxRecDepth 20000 in
theorem LN_338 (L : Nat) (xs : Nat → Int32) : (MC_338 L xs).1.length = 133 := by rw [KC_338]; rfl
def RC_338 : Nat → Nat → Option Nat := g_row RC_337 132 (fun _ => none)
theorem RR_338 (L : Nat) (xs : Nat → Int32) : (MC_338 L xs).2.2.2 = RC_338 := nw_R (LN_337 L xs) (RR_337 L xs)
def IC_338 : Nat → Nat → Int32 := g_row IC_337 132 (fun _ => 0)
theorem II_338 (L : Nat) (xs : Nat → Int32) : ∀ i, i ≠ 0 → (MC_338 L xs).2.1 i = IC_338 i := nw_I (LN_337 L xs) (II_337 L xs)
theorem LL_338 (L : Nat) (xs : Nat → Int32) : ∀ i k, (MC_338 L xs).2.2.1 i k = 0 := nw_L (LL_337 L xs)
def MC_339 (L : Nat) (xs : Nat → Int32) : gM := mR (MC_338 L xs) 131 0 (some 132)
set_option maxRecDepth 20000 in
theorem ST_339 (L : Nat) (xs : Nat → Int32) : pR 9 (MC_338 L xs) (some 131) 0 (some 132) = some (MC_339 L xs) := pR_of (by unfold g_k; rw [KC_338]; rfl)
theorem KC_339 (L : Nat) (xs : Nat → Int32) : (MC_339 L xs).1 = (g_K0 L).take 133 := (mR_K (MC_338 L xs) _ _ _).trans (KC_338 L xs)
set_option maxRecDepth 20000 in
theorem LN_339 (L : Nat) (xs : Nat → Int32) : (MC_339 L xs).1.length = 133 := by rw [KC_339]; rfl
def RC_339 : Nat → Nat → Option Nat := g_up RC_338 131 0 (some 132)
theorem RR_339 (L : Nat) (xs : Nat → Int32) : (MC_339 L xs).2.2.2 = RC_339 := mR_Rr (RR_338 L xs)
theorem II_339 (L : Nat) (xs : Nat → Int32) : ∀ i, i ≠ 0 → (MC_339 L xs).2.1 i = IC_338 i := mR_In (II_338 L xs)
theorem LL_339 (L : Nat) (xs : Nat → Int32) : ∀ i k, (MC_339 L xs).2.2.1 i k = 0 := mR_Ln (LL_338 L xs)
def MC_340 (L : Nat) (xs : Nat → Int32) : gM := nw (20, 401) (MC_339 L xs)
theorem NW_340 (L : Nat) (xs : Nat → Int32) : nw (20, 401) (MC_339 L xs) = MC_340 L xs := rfl
set_option maxRecDepth 20000 in
theorem KC_340 (L : Nat) (xs : Nat → Int32) : (MC_340 L xs).1 = (g_K0 L).take 134 := (nw_K _ (MC_339 L xs)).trans (by rw [KC_339]; rfl)
set_option maxRecDepth 20000 in
theorem LN_340 (L : Nat) (xs : Nat → Int32) : (MC_340 L xs).1.length = 134 := by rw [KC_340]; rfl
def RC_340 : Nat → Nat → Option Nat := g_row RC_339 133 (fun _ => none)
theorem RR_340 (L : Nat) (xs : Nat → Int32) : (MC_340 L xs).2.2.2 = RC_340 := nw_R (LN_339 L xs) (RR_339 L xs)
def IC_340 : Nat → Nat → Int32 := g_row IC_338 133 (fun _ => 0)
theorem II_340 (L : Nat) (xs : Nat → Int32) : ∀ i, i ≠ 0 → (MC_340 L xs).2.1 i = IC_340 i := nw_I (LN_339 L xs) (II_339 L xs)
theorem LL_340 (L : Nat) (xs : Nat → Int32) : ∀ i k, (MC_340 L xs).2.2.1 i k = 0 := nw_L (LL_339 L xs)
def MC_341 (L : Nat) (xs : Nat → Int32) : gM := mR (MC_340 L xs) 131 1 (some 133)
set_option maxRecDepth 20000 in
theorem ST_341 (L : Nat) (xs : Nat → Int32) : pR 9 (MC_340 L xs) (some 131) 1 (some 133) = some (MC_341 L xs) := pR_of (by unfold g_k; rw [KC_340]; rfl)
theorem KC_341 (L : Nat) (xs : Nat → Int32) : (MC_341 L xs).1 = (g_K0 L).take 134 := (mR_K (MC_340 L xs) _ _ _).trans (KC_340 L xs)
set_option maxRecDepth 20000 in
theorem LN_341 (L : Nat) (xs : Nat → Int32) : (MC_341 L xs).1.length = 134 := by rw [KC_341]; rfl
def RC_341 : Nat → Nat → Option Nat := g_up RC_340 131 1 (some 133)
theorem RR_341 (L : Nat) (xs : Nat → Int32) : (MC_341 L xs).2.2.2 = RC_341 := mR_Rr (RR_340 L xs)
theorem II_341 (L : Nat) (xs : Nat → Int32) : ∀ i, i ≠ 0 → (MC_341 L xs).2.1 i = IC_340 i := mR_In (II_340 L xs)
theorem LL_341 (L : Nat) (xs : Nat → Int32) : ∀ i k, (MC_341 L xs).2.2.1 i k = 0 := mR_Ln (LL_340 L xs)
def MC_342 (L : Nat) (xs : Nat → Int32) : gM := nw (20, 401) (MC_341 L xs)
theorem NW_342 (L : Nat) (xs : Nat → Int32) : nw (20, 401) (MC_341 L xs) = MC_342 L xs := rfl
set_option maxRecDepth 20000 in
theorem KC_342 (L : Nat) (xs : Nat → Int32) : (MC_342 L xs).1 = (g_K0 L).take 135 := (nw_K _ (MC_341 L xs)).trans (by rw [KC_341]; rfl)
set_option maxRecDepth 20000 in
theorem LN_342 (L : Nat) (xs : Nat → Int32) : (MC_342 L xs).1.length = 135 := by rw [KC_342]; rfl
def RC_342 : Nat → Nat → Option Nat := g_row RC_341 134 (fun _ => none)
theorem RR_342 (L : Nat) (xs : Nat → Int32) : (MC_342 L xs).2.2.2 = RC_342 := nw_R (LN_341 L xs) (RR_341 L xs)
def IC_342 : Nat → Nat → Int32 := g_row IC_340 134 (fun _ => 0)
theorem II_342 (L : Nat) (xs : Nat → Int32) : ∀ i, i ≠ 0 → (MC_342 L xs).2.1 i = IC_342 i := nw_I (LN_341 L xs) (II_341 L xs)
theorem LL_342 (L : Nat) (xs : Nat → Int32) : ∀ i k, (MC_342 L xs).2.2.1 i k = 0 := nw_L (LL_341 L xs)
def MC_343 (L : Nat) (xs : Nat → Int32) : gM := mR (MC_342 L xs) 131 2 (some 134)
set_option maxRecDepth 20000 in
theorem ST_343 (L : Nat) (xs : Nat → Int32) : pR 9 (MC_342 L xs) (some 131) 2 (some 134) = some (MC_343 L xs) := pR_of (by unfold g_k; rw [KC_342]; rfl)
theorem KC_343 (L : Nat) (xs : Nat → Int32) : (MC_343 L xs).1 = (g_K0 L).take 135 := (mR_K (MC_342 L xs) _ _ _).trans (KC_342 L xs)
set_option maxRecDepth 20000 in
theorem LN_343 (L : Nat) (xs : Nat → Int32) : (MC_343 L xs).1.length = 135 := by rw [KC_343]; rfl
def RC_343 : Nat → Nat → Option Nat := g_up RC_342 131 2 (some 134)
theorem RR_343 (L : Nat) (xs : Nat → Int32) : (MC_343 L xs).2.2.2 = RC_343 := mR_Rr (RR_342 L xs)
theorem II_343 (L : Nat) (xs : Nat → Int32) : ∀ i, i ≠ 0 → (MC_343 L xs).2.1 i = IC_342 i := mR_In (II_342 L xs)
theorem LL_343 (L : Nat) (xs : Nat → Int32) : ∀ i k, (MC_343 L xs).2.2.1 i k = 0 := mR_Ln (LL_342 L xs)
def MC_344 (L : Nat) (xs : Nat → Int32) : gM := nw (20, 401) (MC_343 L xs)
theorem NW_344 (L : Nat) (xs : Nat → Int32) : nw (20, 401) (MC_343 L xs) = MC_344 L xs := rfl
set_option maxRecDepth 20000 in
theorem KC_344 (L : Nat) (xs : Nat → Int32) : (MC_344 L xs).1 = (g_K0 L).take 136 := (nw_K _ (MC_343 L xs)).trans (by rw [KC_343]; rfl)
set_option maxRecDepth 20000 in
theorem LN_344 (L : Nat) (xs : Nat → Int32) : (MC_344 L xs).1.length = 136 := by rw [KC_344]; rfl
def RC_344 : Nat → Nat → Option Nat := g_row RC_343 135 (fun _ => none)
theorem RR_344 (L : Nat) (xs : Nat → Int32) : (MC_344 L xs).2.2.2 = RC_344 := nw_R (LN_343 L xs) (RR_343 L xs)
def IC_344 : Nat → Nat → Int32 := g_row IC_342 135 (fun _ => 0)
theorem II_344 (L : Nat) (xs : Nat → Int32) : ∀ i, i ≠ 0 → (MC_344 L xs).2.1 i = IC_344 i := nw_I (LN_343 L xs) (II_343 L xs)
theorem LL_344 (L : Nat) (xs : Nat → Int32) : ∀ i k, (MC_344 L xs).2.2.1 i k = 0 := nw_L (LL_343 L xs)
def MC_345 (L : Nat) (xs : Nat → Int32) : gM := mR (MC_344 L xs) 131 3 (some 135)
set_option maxRecDepth 20000 in
theorem ST_345 (L : Nat) (xs : Nat → Int32) : pR 9 (MC_344 L xs) (some 131) 3 (some 135) = some (MC_345 L xs) := pR_of (by unfold g_k; rw [KC_344]; rfl)
theorem KC_345 (L : Nat) (xs : Nat → Int32) : (MC_345 L xs).1 = (g_K0 L).take 136 := (mR_K (MC_344 L xs) _ _ _).trans (KC_344 L xs)
set_option maxRecDepth 20000 in
theorem LN_345 (L : Nat) (xs : Nat → Int32) : (MC_345 L xs).1.length = 136 := by rw [KC_345]; rfl
def RC_345 : Nat → Nat → Option Nat := g_up RC_344 131 3 (some 135)
theorem RR_345 (L : Nat) (xs : Nat → Int32) : (MC_345 L xs).2.2.2 = RC_345 := mR_Rr (RR_344 L xs)
theorem II_345 (L : Nat) (xs : Nat → Int32) : ∀ i, i ≠ 0 → (MC_345 L xs).2.1 i = IC_344 i := mR_In (II_344 L xs)
theorem LL_345 (L : Nat) (xs : Nat → Int32) : ∀ i k, (MC_345 L xs).2.2.1 i k = 0 := mR_Ln (LL_344 L xs)
def MC_346 (L : Nat) (xs : Nat → Int32) : gM := mI (MC_345 L xs) 131 4 (0 : Int32)
set_option maxRecDepth 20000 in
theorem ST_346 (L : Nat) (xs : Nat → Int32) : pI 9 (MC_345 L xs) (some 131) 4 (0 : Int32) = some (MC_346 L xs) := pI_of (by unfold g_k; rw [KC_345]; rfl)
theorem KC_346 (L : Nat) (xs : Nat → Int32) : (MC_346 L xs).1 = (g_K0 L).take 136 := (mI_K (MC_345 L xs) _ _ _).trans (KC_345 L xs)
set_option maxRecDepth 20000 in
theorem LN_346 (L : Nat) (xs : Nat → Int32) : (MC_346 L xs).1.length = 136 := by rw [KC_346]; rfl
theorem RR_346 (L : Nat) (xs : Nat → Int32) : (MC_346 L xs).2.2.2 = RC_345 := (mI_Rn (MC_345 L xs) _ _ _).trans (RR_345 L xs)
def IC_346 : Nat → Nat → Int32 := g_up IC_344 131 4 (0)
theorem II_346 (L : Nat) (xs : Nat → Int32) : ∀ i, i ≠ 0 → (MC_346 L xs).2.1 i = IC_346 i := mI_I (II_345 L xs)
theorem LL_346 (L : Nat) (xs : Nat → Int32) : ∀ i k, (MC_346 L xs).2.2.1 i k = 0 := mI_Ln (LL_345 L xs)
def MC_347 (L : Nat) (xs : Nat → Int32) : gM := mI (MC_346 L xs) 131 5 (0 : Int32)
set_option maxRecDepth 20000 in
theorem ST_347 (L : Nat) (xs : Nat → Int32) : pI 9 (MC_346 L xs) (some 131) 5 (0 : Int32) = some (MC_347 L xs) := pI_of (by unfold g_k; rw [KC_346]; rfl)
theorem KC_347 (L : Nat) (xs : Nat → Int32) : (MC_347 L xs).1 = (g_K0 L).take 136 := (mI_K (MC_346 L xs) _ _ _).trans (KC_346 L xs)
set_option maxRecDepth 20000 in
theorem LN_347 (L : Nat) (xs : Nat → Int32) : (MC_347 L xs).1.length = 136 := by rw [KC_347]; rfl
theorem RR_347 (L : Nat) (xs : Nat → Int32) : (MC_347 L xs).2.2.2 = RC_345 := (mI_Rn (MC_346 L xs) _ _ _).trans (RR_346 L xs)
def IC_347 : Nat → Nat → Int32 := g_up IC_346 131 5 (0)
theorem II_347 (L : Nat) (xs : Nat → Int32) : ∀ i, i ≠ 0 → (MC_347 L xs).2.1 i = IC_347 i := mI_I (II_346 L xs)
theorem LL_347 (L : Nat) (xs : Nat → Int32) : ∀ i k, (MC_347 L xs).2.2.1 i k = 0 := mI_Ln (LL_346 L xs)
def MC_348 (L : Nat) (xs : Nat → Int32) : gM := mI (MC_347 L xs) 131 6 (0 : Int32)
set_option maxRecDepth 20000 in
theorem ST_348 (L : Nat) (xs : Nat → Int32) : pI 9 (MC_347 L xs) (some 131) 6 (0 : Int32) = some (MC_348 L xs) := pI_of (by unfold g_k; rw [KC_347]; rfl)
theorem KC_348 (L : Nat) (xs : Nat → Int32) : (MC_348 L xs).1 = (g_K0 L).take 136 := (mI_K (MC_347 L xs) _ _ _).trans (KC_347 L xs)
set_option maxRecDepth 20000 in
theorem LN_348 (L : Nat) (xs : Nat → Int32) : (MC_348 L xs).1.length = 136 := by rw [KC_348]; rfl
theorem RR_348 (L : Nat) (xs : Nat → Int32) : (MC_348 L xs).2.2.2 = RC_345 := (mI_Rn (MC_347 L xs) _ _ _).trans (RR_347 L xs)
def IC_348 : Nat → Nat → Int32 := g_up IC_347 131 6 (0)
theorem II_348 (L : Nat) (xs : Nat → Int32) : ∀ i, i ≠ 0 → (MC_348 L xs).2.1 i = IC_348 i := mI_I (II_347 L xs)
theorem LL_348 (L : Nat) (xs : Nat → Int32) : ∀ i k, (MC_348 L xs).2.2.1 i k = 0 := mI_Ln (LL_347 L xs)
def MC_349 (L : Nat) (xs : Nat → Int32) : gM := mI (MC_348 L xs) 131 7 (0 : Int32)
set_option maxRecDepth 20000 in
theorem ST_349 (L : Nat) (xs : Nat → Int32) : pI 9 (MC_348 L xs) (some 131) 7 (0 : Int32) = some (MC_349 L xs) := pI_of (by unfold g_k; rw [KC_348]; rfl)
theorem KC_349 (L : Nat) (xs : Nat → Int32) : (MC_349 L xs).1 = (g_K0 L).take 136 := (mI_K (MC_348 L xs) _ _ _).trans (KC_348 L xs)
set_option maxRecDepth 20000 in
theorem LN_349 (L : Nat) (xs : Nat → Int32) : (MC_349 L xs).1.length = 136 := by rw [KC_349]; rfl
theorem RR_349 (L : Nat) (xs : Nat → Int32) : (MC_349 L xs).2.2.2 = RC_345 := (mI_Rn (MC_348 L xs) _ _ _).trans (RR_348 L xs)
def IC_349 : Nat → Nat → Int32 := g_up IC_348 131 7 (0)
theorem II_349 (L : Nat) (xs : Nat → Int32) : ∀ i, i ≠ 0 → (MC_349 L xs).2.1 i = IC_349 i := mI_I (II_348 L xs)
theorem LL_349 (L : Nat) (xs : Nat → Int32) : ∀ i k, (MC_349 L xs).2.2.1 i k = 0 := mI_Ln (LL_348 L xs)
def MC_350 (L : Nat) (xs : Nat → Int32) : gM := mR (MC_349 L xs) 2 0 (some 131)
set_option maxRecDepth 20000 in
theorem ST_350 (L : Nat) (xs : Nat → Int32) : pR 11 (MC_349 L xs) (some 2) 0 (some 131) = some (MC_350 L xs) := pR_of (by unfold g_k; rw [KC_349]; rfl)
theorem KC_350 (L : Nat) (xs : Nat → Int32) : (MC_350 L xs).1 = (g_K0 L).take 136 := (mR_K (MC_349 L xs) _ _ _).trans (KC_349 L xs)
set_option maxRecDepth 20000 in
theorem LN_350 (L : Nat) (xs : Nat → Int32) : (MC_350 L xs).1.length = 136 := by rw [KC_350]; rfl
def RC_350 : Nat → Nat → Option Nat := g_up RC_345 2 0 (some 131)
theorem RR_350 (L : Nat) (xs : Nat → Int32) : (MC_350 L xs).2.2.2 = RC_350 := mR_Rr (RR_349 L xs)
theorem II_350 (L : Nat) (xs : Nat → Int32) : ∀ i, i ≠ 0 → (MC_350 L xs).2.1 i = IC_349 i := mR_In (II_349 L xs)
theorem LL_350 (L : Nat) (xs : Nat → Int32) : ∀ i k, (MC_350 L xs).2.2.1 i k = 0 := mR_Ln (LL_349 L xs)
def MC_351 (L : Nat) (xs : Nat → Int32) : gM := nw (2, 0) (MC_350 L xs)
theorem NW_351 (L : Nat) (xs : Nat → Int32) : nw (2, 0) (MC_350 L xs) = MC_351 L xs := rfl
set_option maxRecDepth 20000 in
theorem KC_351 (L : Nat) (xs : Nat → Int32) : (MC_351 L xs).1 = (g_K0 L).take 137 := (nw_K _ (MC_350 L xs)).trans (by rw [KC_350]; rfl)
set_option maxRecDepth 20000 in
theorem LN_351 (L : Nat) (xs : Nat → Int32) : (MC_351 L xs).1.length = 137 := by rw [KC_351]; rfl
def RC_351 : Nat → Nat → Option Nat := g_row RC_350 136 (fun _ => none)
theorem RR_351 (L : Nat) (xs : Nat → Int32) : (MC_351 L xs).2.2.2 = RC_351 := nw_R (LN_350 L xs) (RR_350 L xs)
def IC_351 : Nat → Nat → Int32 := g_row IC_349 136 (fun _ => 0)
theorem II_351 (L : Nat) (xs : Nat → Int32) : ∀ i, i ≠ 0 → (MC_351 L xs).2.1 i = IC_351 i := nw_I (LN_350 L xs) (II_350 L xs)
theorem LL_351 (L : Nat) (xs : Nat → Int32) : ∀ i k, (MC_351 L xs).2.2.1 i k = 0 := nw_L (LL_350 L xs)
def MC_352 (L : Nat) (xs : Nat → Int32) : gM := nw (1, 0) (MC_351 L xs)
theorem NW_352 (L : Nat) (xs : Nat → Int32) : nw (1, 0) (MC_351 L xs) = MC_352 L xs := rfl
set_option maxRecDepth 20000 in
theorem KC_352 (L : Nat) (xs : Nat → Int32) : (MC_352 L xs).1 = (g_K0 L).take 138 := (nw_K _ (MC_351 L xs)).trans (by rw [KC_351]; rfl)
set_option maxRecDepth 20000 in
theorem LN_352 (L : Nat) (xs : Nat → Int32) : (MC_352 L xs).1.length = 138 := by rw [KC_352]; rfl
def RC_352 : Nat → Nat → Option Nat := g_row RC_351 137 (fun _ => none)
theorem RR_352 (L : Nat) (xs : Nat → Int32) : (MC_352 L xs).2.2.2 = RC_352 := nw_R (LN_351 L xs) (RR_351 L xs)
def IC_352 : Nat → Nat → Int32 := g_row IC_351 137 (fun _ => 0)
theorem II_352 (L : Nat) (xs : Nat → Int32) : ∀ i, i ≠ 0 → (MC_352 L xs).2.1 i = IC_352 i := nw_I (LN_351 L xs) (II_351 L xs)
theorem LL_352 (L : Nat) (xs : Nat → Int32) : ∀ i k, (MC_352 L xs).2.2.1 i k = 0 := nw_L (LL_351 L xs)
def MC_353 (L : Nat) (xs : Nat → Int32) : gM := nw (20, 7) (MC_352 L xs)
theorem NW_353 (L : Nat) (xs : Nat → Int32) : nw (20, 7) (MC_352 L xs) = MC_353 L xs := rfl
set_option maxRecDepth 20000 in
theorem KC_353 (L : Nat) (xs : Nat → Int32) : (MC_353 L xs).1 = (g_K0 L).take 139 := (nw_K _ (MC_352 L xs)).trans (by rw [KC_352]; rfl)
set_option maxRecDepth 20000 in
theorem LN_353 (L : Nat) (xs : Nat → Int32) : (MC_353 L xs).1.length = 139 := by rw [KC_353]; rfl
def RC_353 : Nat → Nat → Option Nat := g_row RC_352 138 (fun _ => none)
theorem RR_353 (L : Nat) (xs : Nat → Int32) : (MC_353 L xs).2.2.2 = RC_353 := nw_R (LN_352 L xs) (RR_352 L xs)
def IC_353 : Nat → Nat → Int32 := g_row IC_352 138 (fun _ => 0)
theorem II_353 (L : Nat) (xs : Nat → Int32) : ∀ i, i ≠ 0 → (MC_353 L xs).2.1 i = IC_353 i := nw_I (LN_352 L xs) (II_352 L xs)
theorem LL_353 (L : Nat) (xs : Nat → Int32) : ∀ i k, (MC_353 L xs).2.2.1 i k = 0 := nw_L (LL_352 L xs)
def MC_354 (L : Nat) (xs : Nat → Int32) : gM := mR (MC_353 L xs) 137 0 (some 138)
set_option maxRecDepth 20000 in
theorem ST_354 (L : Nat) (xs : Nat → Int32) : pR 1 (MC_353 L xs) (some 137) 0 (some 138) = some (MC_354 L xs) := pR_of (by unfold g_k; rw [KC_353]; rfl)
theorem KC_354 (L : Nat) (xs : Nat → Int32) : (MC_354 L xs).1 = (g_K0 L).take 139 := (mR_K (MC_353 L xs) _ _ _).trans (KC_353 L xs)
set_option maxRecDepth 20000 in
theorem LN_354 (L : Nat) (xs : Nat → Int32) : (MC_354 L xs).1.length = 139 := by rw [KC_354]; rfl
def RC_354 : Nat → Nat → Option Nat := g_up RC_353 137 0 (some 138)
theorem RR_354 (L : Nat) (xs : Nat → Int32) : (MC_354 L xs).2.2.2 = RC_354 := mR_Rr (RR_353 L xs)
theorem II_354 (L : Nat) (xs : Nat → Int32) : ∀ i, i ≠ 0 → (MC_354 L xs).2.1 i = IC_353 i := mR_In (II_353 L xs)
theorem LL_354 (L : Nat) (xs : Nat → Int32) : ∀ i k, (MC_354 L xs).2.2.1 i k = 0 := mR_Ln (LL_353 L xs)
def MC_355 (L : Nat) (xs : Nat → Int32) : gM := nw (20, 7) (MC_354 L xs)
theorem NW_355 (L : Nat) (xs : Nat → Int32) : nw (20, 7) (MC_354 L xs) = MC_355 L xs := rfl
set_option maxRecDepth 20000 in
theorem KC_355 (L : Nat) (xs : Nat → Int32) : (MC_355 L xs).1 = (g_K0 L).take 140 := (nw_K _ (MC_354 L xs)).trans (by rw [KC_354]; rfl)
set_option maxRecDepth 20000 in
theorem LN_355 (L : Nat) (xs : Nat → Int32) : (MC_355 L xs).1.length = 140 := by rw [KC_355]; rfl
def RC_355 : Nat → Nat → Option Nat := g_row RC_354 139 (fun _ => none)
theorem RR_355 (L : Nat) (xs : Nat → Int32) : (MC_355 L xs).2.2.2 = RC_355 := nw_R (LN_354 L xs) (RR_354 L xs)
def IC_355 : Nat → Nat → Int32 := g_row IC_353 139 (fun _ => 0)
theorem II_355 (L : Nat) (xs : Nat → Int32) : ∀ i, i ≠ 0 → (MC_355 L xs).2.1 i = IC_355 i := nw_I (LN_354 L xs) (II_354 L xs)
theorem LL_355 (L : Nat) (xs : Nat → Int32) : ∀ i k, (MC_355 L xs).2.2.1 i k = 0 := nw_L (LL_354 L xs)
def MC_356 (L : Nat) (xs : Nat → Int32) : gM := mR (MC_355 L xs) 137 1 (some 139)
set_option maxRecDepth 20000 in
theorem ST_356 (L : Nat) (xs : Nat → Int32) : pR 1 (MC_355 L xs) (some 137) 1 (some 139) = some (MC_356 L xs) := pR_of (by unfold g_k; rw [KC_355]; rfl)
theorem KC_356 (L : Nat) (xs : Nat → Int32) : (MC_356 L xs).1 = (g_K0 L).take 140 := (mR_K (MC_355 L xs) _ _ _).trans (KC_355 L xs)
set_option maxRecDepth 20000 in
theorem LN_356 (L : Nat) (xs : Nat → Int32) : (MC_356 L xs).1.length = 140 := by rw [KC_356]; rfl
def RC_356 : Nat → Nat → Option Nat := g_up RC_355 137 1 (some 139)
theorem RR_356 (L : Nat) (xs : Nat → Int32) : (MC_356 L xs).2.2.2 = RC_356 := mR_Rr (RR_355 L xs)
theorem II_356 (L : Nat) (xs : Nat → Int32) : ∀ i, i ≠ 0 → (MC_356 L xs).2.1 i = IC_355 i := mR_In (II_355 L xs)
theorem LL_356 (L : Nat) (xs : Nat → Int32) : ∀ i k, (MC_356 L xs).2.2.1 i k = 0 := mR_Ln (LL_355 L xs)
def MC_357 (L : Nat) (xs : Nat → Int32) : gM := nw (20, 7) (MC_356 L xs)
theorem NW_357 (L : Nat) (xs : Nat → Int32) : nw (20, 7) (MC_356 L xs) = MC_357 L xs := rfl
set_option maxRecDepth 20000 in
theorem KC_357 (L : Nat) (xs : Nat → Int32) : (MC_357 L xs).1 = (g_K0 L).take 141 := (nw_K _ (MC_356 L xs)).trans (by rw [KC_356]; rfl)
set_option maxRecDepth 20000 in
theorem LN_357 (L : Nat) (xs : Nat → Int32) : (MC_357 L xs).1.length = 141 := by rw [KC_357]; rfl
def RC_357 : Nat → Nat → Option Nat := g_row RC_356 140 (fun _ => none)
theorem RR_357 (L : Nat) (xs : Nat → Int32) : (MC_357 L xs).2.2.2 = RC_357 := nw_R (LN_356 L xs) (RR_356 L xs)
def IC_357 : Nat → Nat → Int32 := g_row IC_355 140 (fun _ => 0)
theorem II_357 (L : Nat) (xs : Nat → Int32) : ∀ i, i ≠ 0 → (MC_357 L xs).2.1 i = IC_357 i := nw_I (LN_356 L xs) (II_356 L xs)
theorem LL_357 (L : Nat) (xs : Nat → Int32) : ∀ i k, (MC_357 L xs).2.2.1 i k = 0 := nw_L (LL_356 L xs)
def MC_358 (L : Nat) (xs : Nat → Int32) : gM := mR (MC_357 L xs) 137 2 (some 140)
set_option maxRecDepth 20000 in
theorem ST_358 (L : Nat) (xs : Nat → Int32) : pR 1 (MC_357 L xs) (some 137) 2 (some 140) = some (MC_358 L xs) := pR_of (by unfold g_k; rw [KC_357]; rfl)
theorem KC_358 (L : Nat) (xs : Nat → Int32) : (MC_358 L xs).1 = (g_K0 L).take 141 := (mR_K (MC_357 L xs) _ _ _).trans (KC_357 L xs)
set_option maxRecDepth 20000 in
theorem LN_358 (L : Nat) (xs : Nat → Int32) : (MC_358 L xs).1.length = 141 := by rw [KC_358]; rfl
def RC_358 : Nat → Nat → Option Nat := g_up RC_357 137 2 (some 140)
theorem RR_358 (L : Nat) (xs : Nat → Int32) : (MC_358 L xs).2.2.2 = RC_358 := mR_Rr (RR_357 L xs)
theorem II_358 (L : Nat) (xs : Nat → Int32) : ∀ i, i ≠ 0 → (MC_358 L xs).2.1 i = IC_357 i := mR_In (II_357 L xs)
theorem LL_358 (L : Nat) (xs : Nat → Int32) : ∀ i k, (MC_358 L xs).2.2.1 i k = 0 := mR_Ln (LL_357 L xs)
def MC_359 (L : Nat) (xs : Nat → Int32) : gM := nw (20, 7) (MC_358 L xs)
theorem NW_359 (L : Nat) (xs : Nat → Int32) : nw (20, 7) (MC_358 L xs) = MC_359 L xs := rfl
set_option maxRecDepth 20000 in
theorem KC_359 (L : Nat) (xs : Nat → Int32) : (MC_359 L xs).1 = (g_K0 L).take 142 := (nw_K _ (MC_358 L xs)).trans (by rw [KC_358]; rfl)
set_option maxRecDepth 20000 in
theorem LN_359 (L : Nat) (xs : Nat → Int32) : (MC_359 L xs).1.length = 142 := by rw [KC_359]; rfl
def RC_359 : Nat → Nat → Option Nat := g_row RC_358 141 (fun _ => none)
theorem RR_359 (L : Nat) (xs : Nat → Int32) : (MC_359 L xs).2.2.2 = RC_359 := nw_R (LN_358 L xs) (RR_358 L xs)
def IC_359 : Nat → Nat → Int32 := g_row IC_357 141 (fun _ => 0)
theorem II_359 (L : Nat) (xs : Nat → Int32) : ∀ i, i ≠ 0 → (MC_359 L xs).2.1 i = IC_359 i := nw_I (LN_358 L xs) (II_358 L xs)
theorem LL_359 (L : Nat) (xs : Nat → Int32) : ∀ i k, (MC_359 L xs).2.2.1 i k = 0 := nw_L (LL_358 L xs)
def MC_360 (L : Nat) (xs : Nat → Int32) : gM := mR (MC_359 L xs) 137 3 (some 141)
set_option maxRecDepth 20000 in
theorem ST_360 (L : Nat) (xs : Nat → Int32) : pR 1 (MC_359 L xs) (some 137) 3 (some 141) = some (MC_360 L xs) := pR_of (by unfold g_k; rw [KC_359]; rfl)
theorem KC_360 (L : Nat) (xs : Nat → Int32) : (MC_360 L xs).1 = (g_K0 L).take 142 := (mR_K (MC_359 L xs) _ _ _).trans (KC_359 L xs)
set_option maxRecDepth 20000 in
theorem LN_360 (L : Nat) (xs : Nat → Int32) : (MC_360 L xs).1.length = 142 := by rw [KC_360]; rfl
def RC_360 : Nat → Nat → Option Nat := g_up RC_359 137 3 (some 141)
theorem RR_360 (L : Nat) (xs : Nat → Int32) : (MC_360 L xs).2.2.2 = RC_360 := mR_Rr (RR_359 L xs)
theorem II_360 (L : Nat) (xs : Nat → Int32) : ∀ i, i ≠ 0 → (MC_360 L xs).2.1 i = IC_359 i := mR_In (II_359 L xs)
theorem LL_360 (L : Nat) (xs : Nat → Int32) : ∀ i k, (MC_360 L xs).2.2.1 i k = 0 := mR_Ln (LL_359 L xs)
def MC_361 (L : Nat) (xs : Nat → Int32) : gM := nw (20, 7) (MC_360 L xs)
theorem NW_361 (L : Nat) (xs : Nat → Int32) : nw (20, 7) (MC_360 L xs) = MC_361 L xs := rfl
set_option maxRecDepth 20000 in
theorem KC_361 (L : Nat) (xs : Nat → Int32) : (MC_361 L xs).1 = (g_K0 L).take 143 := (nw_K _ (MC_360 L xs)).trans (by rw [KC_360]; rfl)
set_option maxRecDepth 20000 in
theorem LN_361 (L : Nat) (xs : Nat → Int32) : (MC_361 L xs).1.length = 143 := by rw [KC_361]; rfl
def RC_361 : Nat → Nat → Option Nat := g_row RC_360 142 (fun _ => none)
theorem RR_361 (L : Nat) (xs : Nat → Int32) : (MC_361 L xs).2.2.2 = RC_361 := nw_R (LN_360 L xs) (RR_360 L xs)
def IC_361 : Nat → Nat → Int32 := g_row IC_359 142 (fun _ => 0)
theorem II_361 (L : Nat) (xs : Nat → Int32) : ∀ i, i ≠ 0 → (MC_361 L xs).2.1 i = IC_361 i := nw_I (LN_360 L xs) (II_360 L xs)
theorem LL_361 (L : Nat) (xs : Nat → Int32) : ∀ i k, (MC_361 L xs).2.2.1 i k = 0 := nw_L (LL_360 L xs)
def MC_362 (L : Nat) (xs : Nat → Int32) : gM := mR (MC_361 L xs) 137 4 (some 142)
set_option maxRecDepth 20000 in
theorem ST_362 (L : Nat) (xs : Nat → Int32) : pR 1 (MC_361 L xs) (some 137) 4 (some 142) = some (MC_362 L xs) := pR_of (by unfold g_k; rw [KC_361]; rfl)
theorem KC_362 (L : Nat) (xs : Nat → Int32) : (MC_362 L xs).1 = (g_K0 L).take 143 := (mR_K (MC_361 L xs) _ _ _).trans (KC_361 L xs)
set_option maxRecDepth 20000 in
theorem LN_362 (L : Nat) (xs : Nat → Int32) : (MC_362 L xs).1.length = 143 := by rw [KC_362]; rfl
def RC_362 : Nat → Nat → Option Nat := g_up RC_361 137 4 (some 142)
theorem RR_362 (L : Nat) (xs : Nat → Int32) : (MC_362 L xs).2.2.2 = RC_362 := mR_Rr (RR_361 L xs)
theorem II_362 (L : Nat) (xs : Nat → Int32) : ∀ i, i ≠ 0 → (MC_362 L xs).2.1 i = IC_361 i := mR_In (II_361 L xs)
theorem LL_362 (L : Nat) (xs : Nat → Int32) : ∀ i k, (MC_362 L xs).2.2.1 i k = 0 := mR_Ln (LL_361 L xs)
def MC_363 (L : Nat) (xs : Nat → Int32) : gM := mI (MC_362 L xs) 137 5 (0 : Int32)
set_option maxRecDepth 20000 in
theorem ST_363 (L : Nat) (xs : Nat → Int32) : pI 1 (MC_362 L xs) (some 137) 5 (0 : Int32) = some (MC_363 L xs) := pI_of (by unfold g_k; rw [KC_362]; rfl)
theorem KC_363 (L : Nat) (xs : Nat → Int32) : (MC_363 L xs).1 = (g_K0 L).take 143 := (mI_K (MC_362 L xs) _ _ _).trans (KC_362 L xs)
set_option maxRecDepth 20000 in
theorem LN_363 (L : Nat) (xs : Nat → Int32) : (MC_363 L xs).1.length = 143 := by rw [KC_363]; rfl
theorem RR_363 (L : Nat) (xs : Nat → Int32) : (MC_363 L xs).2.2.2 = RC_362 := (mI_Rn (MC_362 L xs) _ _ _).trans (RR_362 L xs)
def IC_363 : Nat → Nat → Int32 := g_up IC_361 137 5 (0)
theorem II_363 (L : Nat) (xs : Nat → Int32) : ∀ i, i ≠ 0 → (MC_363 L xs).2.1 i = IC_363 i := mI_I (II_362 L xs)
theorem LL_363 (L : Nat) (xs : Nat → Int32) : ∀ i k, (MC_363 L xs).2.2.1 i k = 0 := mI_Ln (LL_362 L xs)
def MC_364 (L : Nat) (xs : Nat → Int32) : gM := mI (MC_363 L xs) 137 6 (0 : Int32)
set_option maxRecDepth 20000 in
theorem ST_364 (L : Nat) (xs : Nat → Int32) : pI 1 (MC_363 L xs) (some 137) 6 (0 : Int32) = some (MC_364 L xs) := pI_of (by unfold g_k; rw [KC_363]; rfl)
theorem KC_364 (L : Nat) (xs : Nat → Int32) : (MC_364 L xs).1 = (g_K0 L).take 143 := (mI_K (MC_363 L xs) _ _ _).trans (KC_363 L xs)
set_option maxRecDepth 20000 in
theorem LN_364 (L : Nat) (xs : Nat → Int32) : (MC_364 L xs).1.length = 143 := by rw [KC_364]; rfl
theorem RR_364 (L : Nat) (xs : Nat → Int32) : (MC_364 L xs).2.2.2 = RC_362 := (mI_Rn (MC_363 L xs) _ _ _).trans (RR_363 L xs)
def IC_364 : Nat → Nat → Int32 := g_up IC_363 137 6 (0)
theorem II_364 (L : Nat) (xs : Nat → Int32) : ∀ i, i ≠ 0 → (MC_364 L xs).2.1 i = IC_364 i := mI_I (II_363 L xs)
theorem LL_364 (L : Nat) (xs : Nat → Int32) : ∀ i k, (MC_364 L xs).2.2.1 i k = 0 := mI_Ln (LL_363 L xs)
def MC_365 (L : Nat) (xs : Nat → Int32) : gM := mI (MC_364 L xs) 137 7 (0 : Int32)
set_option maxRecDepth 20000 in
theorem ST_365 (L : Nat) (xs : Nat → Int32) : pI 1 (MC_364 L xs) (some 137) 7 (0 : Int32) = some (MC_365 L xs) := pI_of (by unfold g_k; rw [KC_364]; rfl)
theorem KC_365 (L : Nat) (xs : Nat → Int32) : (MC_365 L xs).1 = (g_K0 L).take 143 := (mI_K (MC_364 L xs) _ _ _).trans (KC_364 L xs)
set_option maxRecDepth 20000 in
theorem LN_365 (L : Nat) (xs : Nat → Int32) : (MC_365 L xs).1.length = 143 := by rw [KC_365]; rfl
theorem RR_365 (L : Nat) (xs : Nat → Int32) : (MC_365 L xs).2.2.2 = RC_362 := (mI_Rn (MC_364 L xs) _ _ _).trans (RR_364 L xs)
def IC_365 : Nat → Nat → Int32 := g_up IC_364 137 7 (0)
theorem II_365 (L : Nat) (xs : Nat → Int32) : ∀ i, i ≠ 0 → (MC_365 L xs).2.1 i = IC_365 i := mI_I (II_364 L xs)
theorem LL_365 (L : Nat) (xs : Nat → Int32) : ∀ i k, (MC_365 L xs).2.2.1 i k = 0 := mI_Ln (LL_364 L xs)
def MC_366 (L : Nat) (xs : Nat → Int32) : gM := mI (MC_365 L xs) 137 8 (0 : Int32)
set_option maxRecDepth 20000 in
theorem ST_366 (L : Nat) (xs : Nat → Int32) : pI 1 (MC_365 L xs) (some 137) 8 (0 : Int32) = some (MC_366 L xs) := pI_of (by unfold g_k; rw [KC_365]; rfl)
theorem KC_366 (L : Nat) (xs : Nat → Int32) : (MC_366 L xs).1 = (g_K0 L).take 143 := (mI_K (MC_365 L xs) _ _ _).trans (KC_365 L xs)
set_option maxRecDepth 20000 in
theorem LN_366 (L : Nat) (xs : Nat → Int32) : (MC_366 L xs).1.length = 143 := by rw [KC_366]; rfl
theorem RR_366 (L : Nat) (xs : Nat → Int32) : (MC_366 L xs).2.2.2 = RC_362 := (mI_Rn (MC_365 L xs) _ _ _).trans (RR_365 L xs)
def IC_366 : Nat → Nat → Int32 := g_up IC_365 137 8 (0)
theorem II_366 (L : Nat) (xs : Nat → Int32) : ∀ i, i ≠ 0 → (MC_366 L xs).2.1 i = IC_366 i := mI_I (II_365 L xs)
theorem LL_366 (L : Nat) (xs : Nat → Int32) : ∀ i k, (MC_366 L xs).2.2.1 i k = 0 := mI_Ln (LL_365 L xs)
def MC_367 (L : Nat) (xs : Nat → Int32) : gM := mI (MC_366 L xs) 137 9 (0 : Int32)
set_option maxRecDepth 20000 in
theorem ST_367 (L : Nat) (xs : Nat → Int32) : pI 1 (MC_366 L xs) (some 137) 9 (0 : Int32) = some (MC_367 L xs) := pI_of (by unfold g_k; rw [KC_366]; rfl)
theorem KC_367 (L : Nat) (xs : Nat → Int32) : (MC_367 L xs).1 = (g_K0 L).take 143 := (mI_K (MC_366 L xs) _ _ _).trans (KC_366 L xs)
set_option maxRecDepth 20000 in
theorem LN_367 (L : Nat) (xs : Nat → Int32) : (MC_367 L xs).1.length = 143 := by rw [KC_367]; rfl
theorem RR_367 (L : Nat) (xs : Nat → Int32) : (MC_367 L xs).2.2.2 = RC_362 := (mI_Rn (MC_366 L xs) _ _ _).trans (RR_366 L xs)
def IC_367 : Nat → Nat → Int32 := g_up IC_366 137 9 (0)
theorem II_367 (L : Nat) (xs : Nat → Int32) : ∀ i, i ≠ 0 → (MC_367 L xs).2.1 i = IC_367 i := mI_I (II_366 L xs)
theorem LL_367 (L : Nat) (xs : Nat → Int32) : ∀ i k, (MC_367 L xs).2.2.1 i k = 0 := mI_Ln (LL_366 L xs)
def MC_368 (L : Nat) (xs : Nat → Int32) : gM := mI (MC_367 L xs) 137 10 (0 : Int32)
set_option maxRecDepth 20000 in
theorem ST_368 (L : Nat) (xs : Nat → Int32) : pI 1 (MC_367 L xs) (some 137) 10 (0 : Int32) = some (MC_368 L xs) := pI_of (by unfold g_k; rw [KC_367]; rfl)
theorem KC_368 (L : Nat) (xs : Nat → Int32) : (MC_368 L xs).1 = (g_K0 L).take 143 := (mI_K (MC_367 L xs) _ _ _).trans (KC_367 L xs)
set_option maxRecDepth 20000 in
theorem LN_368 (L : Nat) (xs : Nat → Int32) : (MC_368 L xs).1.length = 143 := by rw [KC_368]; rfl
theorem RR_368 (L : Nat) (xs : Nat → Int32) : (MC_368 L xs).2.2.2 = RC_362 := (mI_Rn (MC_367 L xs) _ _ _).trans (RR_367 L xs)
def IC_368 : Nat → Nat → Int32 := g_up IC_367 137 10 (0)
theorem II_368 (L : Nat) (xs : Nat → Int32) : ∀ i, i ≠ 0 → (MC_368 L xs).2.1 i = IC_368 i := mI_I (II_367 L xs)
theorem LL_368 (L : Nat) (xs : Nat → Int32) : ∀ i k, (MC_368 L xs).2.2.1 i k = 0 := mI_Ln (LL_367 L xs)
def MC_369 (L : Nat) (xs : Nat → Int32) : gM := mR (MC_368 L xs) 136 1 (some 137)
set_option maxRecDepth 20000 in
theorem ST_369 (L : Nat) (xs : Nat → Int32) : pR 2 (MC_368 L xs) (some 136) 1 (some 137) = some (MC_369 L xs) := pR_of (by unfold g_k; rw [KC_368]; rfl)
theorem KC_369 (L : Nat) (xs : Nat → Int32) : (MC_369 L xs).1 = (g_K0 L).take 143 := (mR_K (MC_368 L xs) _ _ _).trans (KC_368 L xs)
set_option maxRecDepth 20000 in
theorem LN_369 (L : Nat) (xs : Nat → Int32) : (MC_369 L xs).1.length = 143 := by rw [KC_369]; rfl
def RC_369 : Nat → Nat → Option Nat := g_up RC_362 136 1 (some 137)
theorem RR_369 (L : Nat) (xs : Nat → Int32) : (MC_369 L xs).2.2.2 = RC_369 := mR_Rr (RR_368 L xs)
theorem II_369 (L : Nat) (xs : Nat → Int32) : ∀ i, i ≠ 0 → (MC_369 L xs).2.1 i = IC_368 i := mR_In (II_368 L xs)
theorem LL_369 (L : Nat) (xs : Nat → Int32) : ∀ i k, (MC_369 L xs).2.2.1 i k = 0 := mR_Ln (LL_368 L xs)
def MC_370 (L : Nat) (xs : Nat → Int32) : gM := nw (8, 0) (MC_369 L xs)
theorem NW_370 (L : Nat) (xs : Nat → Int32) : nw (8, 0) (MC_369 L xs) = MC_370 L xs := rfl
set_option maxRecDepth 20000 in
theorem KC_370 (L : Nat) (xs : Nat → Int32) : (MC_370 L xs).1 = (g_K0 L).take 144 := (nw_K _ (MC_369 L xs)).trans (by rw [KC_369]; rfl)
set_option maxRecDepth 20000 in
theorem LN_370 (L : Nat) (xs : Nat → Int32) : (MC_370 L xs).1.length = 144 := by rw [KC_370]; rfl
def RC_370 : Nat → Nat → Option Nat := g_row RC_369 143 (fun _ => none)
theorem RR_370 (L : Nat) (xs : Nat → Int32) : (MC_370 L xs).2.2.2 = RC_370 := nw_R (LN_369 L xs) (RR_369 L xs)
def IC_370 : Nat → Nat → Int32 := g_row IC_368 143 (fun _ => 0)
theorem II_370 (L : Nat) (xs : Nat → Int32) : ∀ i, i ≠ 0 → (MC_370 L xs).2.1 i = IC_370 i := nw_I (LN_369 L xs) (II_369 L xs)
theorem LL_370 (L : Nat) (xs : Nat → Int32) : ∀ i k, (MC_370 L xs).2.2.1 i k = 0 := nw_L (LL_369 L xs)
def MC_371 (L : Nat) (xs : Nat → Int32) : gM := nw (20, 49) (MC_370 L xs)
theorem NW_371 (L : Nat) (xs : Nat → Int32) : nw (20, 49) (MC_370 L xs) = MC_371 L xs := rfl
set_option maxRecDepth 20000 in
theorem KC_371 (L : Nat) (xs : Nat → Int32) : (MC_371 L xs).1 = (g_K0 L).take 145 := (nw_K _ (MC_370 L xs)).trans (by rw [KC_370]; rfl)
set_option maxRecDepth 20000 in
theorem LN_371 (L : Nat) (xs : Nat → Int32) : (MC_371 L xs).1.length = 145 := by rw [KC_371]; rfl
def RC_371 : Nat → Nat → Option Nat := g_row RC_370 144 (fun _ => none)
theorem RR_371 (L : Nat) (xs : Nat → Int32) : (MC_371 L xs).2.2.2 = RC_371 := nw_R (LN_370 L xs) (RR_370 L xs)
def IC_371 : Nat → Nat → Int32 := g_row IC_370 144 (fun _ => 0)
theorem II_371 (L : Nat) (xs : Nat → Int32) : ∀ i, i ≠ 0 → (MC_371 L xs).2.1 i = IC_371 i := nw_I (LN_370 L xs) (II_370 L xs)
theorem LL_371 (L : Nat) (xs : Nat → Int32) : ∀ i k, (MC_371 L xs).2.2.1 i k = 0 := nw_L (LL_370 L xs)
def MC_372 (L : Nat) (xs : Nat → Int32) : gM := mR (MC_371 L xs) 143 0 (some 144)
set_option maxRecDepth 20000 in
theorem ST_372 (L : Nat) (xs : Nat → Int32) : pR 8 (MC_371 L xs) (some 143) 0 (some 144) = some (MC_372 L xs) := pR_of (by unfold g_k; rw [KC_371]; rfl)
theorem KC_372 (L : Nat) (xs : Nat → Int32) : (MC_372 L xs).1 = (g_K0 L).take 145 := (mR_K (MC_371 L xs) _ _ _).trans (KC_371 L xs)
set_option maxRecDepth 20000 in
theorem LN_372 (L : Nat) (xs : Nat → Int32) : (MC_372 L xs).1.length = 145 := by rw [KC_372]; rfl
def RC_372 : Nat → Nat → Option Nat := g_up RC_371 143 0 (some 144)
theorem RR_372 (L : Nat) (xs : Nat → Int32) : (MC_372 L xs).2.2.2 = RC_372 := mR_Rr (RR_371 L xs)
theorem II_372 (L : Nat) (xs : Nat → Int32) : ∀ i, i ≠ 0 → (MC_372 L xs).2.1 i = IC_371 i := mR_In (II_371 L xs)
theorem LL_372 (L : Nat) (xs : Nat → Int32) : ∀ i k, (MC_372 L xs).2.2.1 i k = 0 := mR_Ln (LL_371 L xs)
def MC_373 (L : Nat) (xs : Nat → Int32) : gM := nw (20, 49) (MC_372 L xs)
theorem NW_373 (L : Nat) (xs : Nat → Int32) : nw (20, 49) (MC_372 L xs) = MC_373 L xs := rfl
set_option maxRecDepth 20000 in
theorem KC_373 (L : Nat) (xs : Nat → Int32) : (MC_373 L xs).1 = (g_K0 L).take 146 := (nw_K _ (MC_372 L xs)).trans (by rw [KC_372]; rfl)
set_option maxRecDepth 20000 in
theorem LN_373 (L : Nat) (xs : Nat → Int32) : (MC_373 L xs).1.length = 146 := by rw [KC_373]; rfl
def RC_373 : Nat → Nat → Option Nat := g_row RC_372 145 (fun _ => none)
theorem RR_373 (L : Nat) (xs : Nat → Int32) : (MC_373 L xs).2.2.2 = RC_373 := nw_R (LN_372 L xs) (RR_372 L xs)
def IC_373 : Nat → Nat → Int32 := g_row IC_371 145 (fun _ => 0)
theorem II_373 (L : Nat) (xs : Nat → Int32) : ∀ i, i ≠ 0 → (MC_373 L xs).2.1 i = IC_373 i := nw_I (LN_372 L xs) (II_372 L xs)
theorem LL_373 (L : Nat) (xs : Nat → Int32) : ∀ i k, (MC_373 L xs).2.2.1 i k = 0 := nw_L (LL_372 L xs)
def MC_374 (L : Nat) (xs : Nat → Int32) : gM := mR (MC_373 L xs) 143 1 (some 145)
set_option maxRecDepth 20000 in
theorem ST_374 (L : Nat) (xs : Nat → Int32) : pR 8 (MC_373 L xs) (some 143) 1 (some 145) = some (MC_374 L xs) := pR_of (by unfold g_k; rw [KC_373]; rfl)
theorem KC_374 (L : Nat) (xs : Nat → Int32) : (MC_374 L xs).1 = (g_K0 L).take 146 := (mR_K (MC_373 L xs) _ _ _).trans (KC_373 L xs)
set_option maxRecDepth 20000 in
theorem LN_374 (L : Nat) (xs : Nat → Int32) : (MC_374 L xs).1.length = 146 := by rw [KC_374]; rfl
def RC_374 : Nat → Nat → Option Nat := g_up RC_373 143 1 (some 145)
theorem RR_374 (L : Nat) (xs : Nat → Int32) : (MC_374 L xs).2.2.2 = RC_374 := mR_Rr (RR_373 L xs)
theorem II_374 (L : Nat) (xs : Nat → Int32) : ∀ i, i ≠ 0 → (MC_374 L xs).2.1 i = IC_373 i := mR_In (II_373 L xs)
theorem LL_374 (L : Nat) (xs : Nat → Int32) : ∀ i k, (MC_374 L xs).2.2.1 i k = 0 := mR_Ln (LL_373 L xs)
def MC_375 (L : Nat) (xs : Nat → Int32) : gM := nw (20, 7) (MC_374 L xs)
theorem NW_375 (L : Nat) (xs : Nat → Int32) : nw (20, 7) (MC_374 L xs) = MC_375 L xs := rfl
set_option maxRecDepth 20000 in
theorem KC_375 (L : Nat) (xs : Nat → Int32) : (MC_375 L xs).1 = (g_K0 L).take 147 := (nw_K _ (MC_374 L xs)).trans (by rw [KC_374]; rfl)
set_option maxRecDepth 20000 in
theorem LN_375 (L : Nat) (xs : Nat → Int32) : (MC_375 L xs).1.length = 147 := by rw [KC_375]; rfl
def RC_375 : Nat → Nat → Option Nat := g_row RC_374 146 (fun _ => none)
theorem RR_375 (L : Nat) (xs : Nat → Int32) : (MC_375 L xs).2.2.2 = RC_375 := nw_R (LN_374 L xs) (RR_374 L xs)
def IC_375 : Nat → Nat → Int32 := g_row IC_373 146 (fun _ => 0)
theorem II_375 (L : Nat) (xs : Nat → Int32) : ∀ i, i ≠ 0 → (MC_375 L xs).2.1 i = IC_375 i := nw_I (LN_374 L xs) (II_374 L xs)
theorem LL_375 (L : Nat) (xs : Nat → Int32) : ∀ i k, (MC_375 L xs).2.2.1 i k = 0 := nw_L (LL_374 L xs)
def MC_376 (L : Nat) (xs : Nat → Int32) : gM := mR (MC_375 L xs) 143 2 (some 146)
set_option maxRecDepth 20000 in
theorem ST_376 (L : Nat) (xs : Nat → Int32) : pR 8 (MC_375 L xs) (some 143) 2 (some 146) = some (MC_376 L xs) := pR_of (by unfold g_k; rw [KC_375]; rfl)
theorem KC_376 (L : Nat) (xs : Nat → Int32) : (MC_376 L xs).1 = (g_K0 L).take 147 := (mR_K (MC_375 L xs) _ _ _).trans (KC_375 L xs)
set_option maxRecDepth 20000 in
theorem LN_376 (L : Nat) (xs : Nat → Int32) : (MC_376 L xs).1.length = 147 := by rw [KC_376]; rfl
def RC_376 : Nat → Nat → Option Nat := g_up RC_375 143 2 (some 146)
theorem RR_376 (L : Nat) (xs : Nat → Int32) : (MC_376 L xs).2.2.2 = RC_376 := mR_Rr (RR_375 L xs)
theorem II_376 (L : Nat) (xs : Nat → Int32) : ∀ i, i ≠ 0 → (MC_376 L xs).2.1 i = IC_375 i := mR_In (II_375 L xs)
theorem LL_376 (L : Nat) (xs : Nat → Int32) : ∀ i k, (MC_376 L xs).2.2.1 i k = 0 := mR_Ln (LL_375 L xs)
def MC_377 (L : Nat) (xs : Nat → Int32) : gM := nw (20, 7) (MC_376 L xs)
theorem NW_377 (L : Nat) (xs : Nat → Int32) : nw (20, 7) (MC_376 L xs) = MC_377 L xs := rfl
set_option maxRecDepth 20000 in
theorem KC_377 (L : Nat) (xs : Nat → Int32) : (MC_377 L xs).1 = (g_K0 L).take 148 := (nw_K _ (MC_376 L xs)).trans (by rw [KC_376]; rfl)
set_option maxRecDepth 20000 in
theorem LN_377 (L : Nat) (xs : Nat → Int32) : (MC_377 L xs).1.length = 148 := by rw [KC_377]; rfl
def RC_377 : Nat → Nat → Option Nat := g_row RC_376 147 (fun _ => none)
theorem RR_377 (L : Nat) (xs : Nat → Int32) : (MC_377 L xs).2.2.2 = RC_377 := nw_R (LN_376 L xs) (RR_376 L xs)
def IC_377 : Nat → Nat → Int32 := g_row IC_375 147 (fun _ => 0)
theorem II_377 (L : Nat) (xs : Nat → Int32) : ∀ i, i ≠ 0 → (MC_377 L xs).2.1 i = IC_377 i := nw_I (LN_376 L xs) (II_376 L xs)
theorem LL_377 (L : Nat) (xs : Nat → Int32) : ∀ i k, (MC_377 L xs).2.2.1 i k = 0 := nw_L (LL_376 L xs)
def MC_378 (L : Nat) (xs : Nat → Int32) : gM := mR (MC_377 L xs) 143 3 (some 147)
set_option maxRecDepth 20000 in
theorem ST_378 (L : Nat) (xs : Nat → Int32) : pR 8 (MC_377 L xs) (some 143) 3 (some 147) = some (MC_378 L xs) := pR_of (by unfold g_k; rw [KC_377]; rfl)
theorem KC_378 (L : Nat) (xs : Nat → Int32) : (MC_378 L xs).1 = (g_K0 L).take 148 := (mR_K (MC_377 L xs) _ _ _).trans (KC_377 L xs)
set_option maxRecDepth 20000 in
theorem LN_378 (L : Nat) (xs : Nat → Int32) : (MC_378 L xs).1.length = 148 := by rw [KC_378]; rfl
def RC_378 : Nat → Nat → Option Nat := g_up RC_377 143 3 (some 147)
theorem RR_378 (L : Nat) (xs : Nat → Int32) : (MC_378 L xs).2.2.2 = RC_378 := mR_Rr (RR_377 L xs)
theorem II_378 (L : Nat) (xs : Nat → Int32) : ∀ i, i ≠ 0 → (MC_378 L xs).2.1 i = IC_377 i := mR_In (II_377 L xs)
theorem LL_378 (L : Nat) (xs : Nat → Int32) : ∀ i k, (MC_378 L xs).2.2.1 i k = 0 := mR_Ln (LL_377 L xs)
def MC_379 (L : Nat) (xs : Nat → Int32) : gM := mI (MC_378 L xs) 143 4 (0 : Int32)
set_option maxRecDepth 20000 in
theorem ST_379 (L : Nat) (xs : Nat → Int32) : pI 8 (MC_378 L xs) (some 143) 4 (0 : Int32) = some (MC_379 L xs) := pI_of (by unfold g_k; rw [KC_378]; rfl)
theorem KC_379 (L : Nat) (xs : Nat → Int32) : (MC_379 L xs).1 = (g_K0 L).take 148 := (mI_K (MC_378 L xs) _ _ _).trans (KC_378 L xs)
set_option maxRecDepth 20000 in
theorem LN_379 (L : Nat) (xs : Nat → Int32) : (MC_379 L xs).1.length = 148 := by rw [KC_379]; rfl
theorem RR_379 (L : Nat) (xs : Nat → Int32) : (MC_379 L xs).2.2.2 = RC_378 := (mI_Rn (MC_378 L xs) _ _ _).trans (RR_378 L xs)
def IC_379 : Nat → Nat → Int32 := g_up IC_377 143 4 (0)
theorem II_379 (L : Nat) (xs : Nat → Int32) : ∀ i, i ≠ 0 → (MC_379 L xs).2.1 i = IC_379 i := mI_I (II_378 L xs)
theorem LL_379 (L : Nat) (xs : Nat → Int32) : ∀ i k, (MC_379 L xs).2.2.1 i k = 0 := mI_Ln (LL_378 L xs)
def MC_380 (L : Nat) (xs : Nat → Int32) : gM := mI (MC_379 L xs) 143 5 (0 : Int32)
set_option maxRecDepth 20000 in
theorem ST_380 (L : Nat) (xs : Nat → Int32) : pI 8 (MC_379 L xs) (some 143) 5 (0 : Int32) = some (MC_380 L xs) := pI_of (by unfold g_k; rw [KC_379]; rfl)
theorem KC_380 (L : Nat) (xs : Nat → Int32) : (MC_380 L xs).1 = (g_K0 L).take 148 := (mI_K (MC_379 L xs) _ _ _).trans (KC_379 L xs)
set_option maxRecDepth 20000 in
theorem LN_380 (L : Nat) (xs : Nat → Int32) : (MC_380 L xs).1.length = 148 := by rw [KC_380]; rfl
theorem RR_380 (L : Nat) (xs : Nat → Int32) : (MC_380 L xs).2.2.2 = RC_378 := (mI_Rn (MC_379 L xs) _ _ _).trans (RR_379 L xs)
def IC_380 : Nat → Nat → Int32 := g_up IC_379 143 5 (0)
theorem II_380 (L : Nat) (xs : Nat → Int32) : ∀ i, i ≠ 0 → (MC_380 L xs).2.1 i = IC_380 i := mI_I (II_379 L xs)
theorem LL_380 (L : Nat) (xs : Nat → Int32) : ∀ i k, (MC_380 L xs).2.2.1 i k = 0 := mI_Ln (LL_379 L xs)
def MC_381 (L : Nat) (xs : Nat → Int32) : gM := mI (MC_380 L xs) 143 6 (0 : Int32)
set_option maxRecDepth 20000 in
theorem ST_381 (L : Nat) (xs : Nat → Int32) : pI 8 (MC_380 L xs) (some 143) 6 (0 : Int32) = some (MC_381 L xs) := pI_of (by unfold g_k; rw [KC_380]; rfl)
theorem KC_381 (L : Nat) (xs : Nat → Int32) : (MC_381 L xs).1 = (g_K0 L).take 148 := (mI_K (MC_380 L xs) _ _ _).trans (KC_380 L xs)
set_option maxRecDepth 20000 in
theorem LN_381 (L : Nat) (xs : Nat → Int32) : (MC_381 L xs).1.length = 148 := by rw [KC_381]; rfl
theorem RR_381 (L : Nat) (xs : Nat → Int32) : (MC_381 L xs).2.2.2 = RC_378 := (mI_Rn (MC_380 L xs) _ _ _).trans (RR_380 L xs)
def IC_381 : Nat → Nat → Int32 := g_up IC_380 143 6 (0)
theorem II_381 (L : Nat) (xs : Nat → Int32) : ∀ i, i ≠ 0 → (MC_381 L xs).2.1 i = IC_381 i := mI_I (II_380 L xs)
theorem LL_381 (L : Nat) (xs : Nat → Int32) : ∀ i k, (MC_381 L xs).2.2.1 i k = 0 := mI_Ln (LL_380 L xs)
def MC_382 (L : Nat) (xs : Nat → Int32) : gM := mR (MC_381 L xs) 136 2 (some 143)
set_option maxRecDepth 20000 in
theorem ST_382 (L : Nat) (xs : Nat → Int32) : pR 2 (MC_381 L xs) (some 136) 2 (some 143) = some (MC_382 L xs) := pR_of (by unfold g_k; rw [KC_381]; rfl)
theorem KC_382 (L : Nat) (xs : Nat → Int32) : (MC_382 L xs).1 = (g_K0 L).take 148 := (mR_K (MC_381 L xs) _ _ _).trans (KC_381 L xs)
set_option maxRecDepth 20000 in
theorem LN_382 (L : Nat) (xs : Nat → Int32) : (MC_382 L xs).1.length = 148 := by rw [KC_382]; rfl
def RC_382 : Nat → Nat → Option Nat := g_up RC_378 136 2 (some 143)
theorem RR_382 (L : Nat) (xs : Nat → Int32) : (MC_382 L xs).2.2.2 = RC_382 := mR_Rr (RR_381 L xs)
theorem II_382 (L : Nat) (xs : Nat → Int32) : ∀ i, i ≠ 0 → (MC_382 L xs).2.1 i = IC_381 i := mR_In (II_381 L xs)
theorem LL_382 (L : Nat) (xs : Nat → Int32) : ∀ i k, (MC_382 L xs).2.2.1 i k = 0 := mR_Ln (LL_381 L xs)
def MC_383 (L : Nat) (xs : Nat → Int32) : gM := mR (MC_382 L xs) 136 0 (some 131)
set_option maxRecDepth 20000 in
theorem ST_383 (L : Nat) (xs : Nat → Int32) : pR 2 (MC_382 L xs) (some 136) 0 (some 131) = some (MC_383 L xs) := pR_of (by unfold g_k; rw [KC_382]; rfl)
theorem KC_383 (L : Nat) (xs : Nat → Int32) : (MC_383 L xs).1 = (g_K0 L).take 148 := (mR_K (MC_382 L xs) _ _ _).trans (KC_382 L xs)
set_option maxRecDepth 20000 in
theorem LN_383 (L : Nat) (xs : Nat → Int32) : (MC_383 L xs).1.length = 148 := by rw [KC_383]; rfl
def RC_383 : Nat → Nat → Option Nat := g_up RC_382 136 0 (some 131)
theorem RR_383 (L : Nat) (xs : Nat → Int32) : (MC_383 L xs).2.2.2 = RC_383 := mR_Rr (RR_382 L xs)
theorem II_383 (L : Nat) (xs : Nat → Int32) : ∀ i, i ≠ 0 → (MC_383 L xs).2.1 i = IC_381 i := mR_In (II_382 L xs)
theorem LL_383 (L : Nat) (xs : Nat → Int32) : ∀ i k, (MC_383 L xs).2.2.1 i k = 0 := mR_Ln (LL_382 L xs)
def MC_384 (L : Nat) (xs : Nat → Int32) : gM := mR (MC_383 L xs) 2 1 (some 136)
set_option maxRecDepth 20000 in
theorem ST_384 (L : Nat) (xs : Nat → Int32) : pR 11 (MC_383 L xs) (some 2) 1 (some 136) = some (MC_384 L xs) := pR_of (by unfold g_k; rw [KC_383]; rfl)
theorem KC_384 (L : Nat) (xs : Nat → Int32) : (MC_384 L xs).1 = (g_K0 L).take 148 := (mR_K (MC_383 L xs) _ _ _).trans (KC_383 L xs)
set_option maxRecDepth 20000 in
theorem LN_384 (L : Nat) (xs : Nat → Int32) : (MC_384 L xs).1.length = 148 := by rw [KC_384]; rfl
def RC_384 : Nat → Nat → Option Nat := g_up RC_383 2 1 (some 136)
theorem RR_384 (L : Nat) (xs : Nat → Int32) : (MC_384 L xs).2.2.2 = RC_384 := mR_Rr (RR_383 L xs)
theorem II_384 (L : Nat) (xs : Nat → Int32) : ∀ i, i ≠ 0 → (MC_384 L xs).2.1 i = IC_381 i := mR_In (II_383 L xs)
theorem LL_384 (L : Nat) (xs : Nat → Int32) : ∀ i k, (MC_384 L xs).2.2.1 i k = 0 := mR_Ln (LL_383 L xs)
def MC_385 (L : Nat) (xs : Nat → Int32) : gM := nw (7, 0) (MC_384 L xs)
theorem NW_385 (L : Nat) (xs : Nat → Int32) : nw (7, 0) (MC_384 L xs) = MC_385 L xs := rfl
set_option maxRecDepth 20000 in
theorem KC_385 (L : Nat) (xs : Nat → Int32) : (MC_385 L xs).1 = (g_K0 L).take 149 := (nw_K _ (MC_384 L xs)).trans (by rw [KC_384]; rfl)
set_option maxRecDepth 20000 in
theorem LN_385 (L : Nat) (xs : Nat → Int32) : (MC_385 L xs).1.length = 149 := by rw [KC_385]; rfl
def RC_385 : Nat → Nat → Option Nat := g_row RC_384 148 (fun _ => none)
theorem RR_385 (L : Nat) (xs : Nat → Int32) : (MC_385 L xs).2.2.2 = RC_385 := nw_R (LN_384 L xs) (RR_384 L xs)
def IC_385 : Nat → Nat → Int32 := g_row IC_381 148 (fun _ => 0)
theorem II_385 (L : Nat) (xs : Nat → Int32) : ∀ i, i ≠ 0 → (MC_385 L xs).2.1 i = IC_385 i := nw_I (LN_384 L xs) (II_384 L xs)
theorem LL_385 (L : Nat) (xs : Nat → Int32) : ∀ i k, (MC_385 L xs).2.2.1 i k = 0 := nw_L (LL_384 L xs)
def MC_386 (L : Nat) (xs : Nat → Int32) : gM := nw (20, 400) (MC_385 L xs)
theorem NW_386 (L : Nat) (xs : Nat → Int32) : nw (20, 400) (MC_385 L xs) = MC_386 L xs := rfl
set_option maxRecDepth 20000 in
theorem KC_386 (L : Nat) (xs : Nat → Int32) : (MC_386 L xs).1 = (g_K0 L).take 150 := (nw_K _ (MC_385 L xs)).trans (by rw [KC_385]; rfl)
set_option maxRecDepth 20000 in
theorem LN_386 (L : Nat) (xs : Nat → Int32) : (MC_386 L xs).1.length = 150 := by rw [KC_386]; rfl
def RC_386 : Nat → Nat → Option Nat := g_row RC_385 149 (fun _ => none)
theorem RR_386 (L : Nat) (xs : Nat → Int32) : (MC_386 L xs).2.2.2 = RC_386 := nw_R (LN_385 L xs) (RR_385 L xs)
def IC_386 : Nat → Nat → Int32 := g_row IC_385 149 (fun _ => 0)
theorem II_386 (L : Nat) (xs : Nat → Int32) : ∀ i, i ≠ 0 → (MC_386 L xs).2.1 i = IC_386 i := nw_I (LN_385 L xs) (II_385 L xs)
theorem LL_386 (L : Nat) (xs : Nat → Int32) : ∀ i k, (MC_386 L xs).2.2.1 i k = 0 := nw_L (LL_385 L xs)
def MC_387 (L : Nat) (xs : Nat → Int32) : gM := mR (MC_386 L xs) 148 1 (some 149)
set_option maxRecDepth 20000 in
theorem ST_387 (L : Nat) (xs : Nat → Int32) : pR 7 (MC_386 L xs) (some 148) 1 (some 149) = some (MC_387 L xs) := pR_of (by unfold g_k; rw [KC_386]; rfl)
theorem KC_387 (L : Nat) (xs : Nat → Int32) : (MC_387 L xs).1 = (g_K0 L).take 150 := (mR_K (MC_386 L xs) _ _ _).trans (KC_386 L xs)
set_option maxRecDepth 20000 in
theorem LN_387 (L : Nat) (xs : Nat → Int32) : (MC_387 L xs).1.length = 150 := by rw [KC_387]; rfl
def RC_387 : Nat → Nat → Option Nat := g_up RC_386 148 1 (some 149)
theorem RR_387 (L : Nat) (xs : Nat → Int32) : (MC_387 L xs).2.2.2 = RC_387 := mR_Rr (RR_386 L xs)
theorem II_387 (L : Nat) (xs : Nat → Int32) : ∀ i, i ≠ 0 → (MC_387 L xs).2.1 i = IC_386 i := mR_In (II_386 L xs)
theorem LL_387 (L : Nat) (xs : Nat → Int32) : ∀ i k, (MC_387 L xs).2.2.1 i k = 0 := mR_Ln (LL_386 L xs)
def MC_388 (L : Nat) (xs : Nat → Int32) : gM := nw (20, 36) (MC_387 L xs)
theorem NW_388 (L : Nat) (xs : Nat → Int32) : nw (20, 36) (MC_387 L xs) = MC_388 L xs := rfl
set_option maxRecDepth 20000 in
theorem KC_388 (L : Nat) (xs : Nat → Int32) : (MC_388 L xs).1 = (g_K0 L).take 151 := (nw_K _ (MC_387 L xs)).trans (by rw [KC_387]; rfl)
set_option maxRecDepth 20000 in
theorem LN_388 (L : Nat) (xs : Nat → Int32) : (MC_388 L xs).1.length = 151 := by rw [KC_388]; rfl
def RC_388 : Nat → Nat → Option Nat := g_row RC_387 150 (fun _ => none)
theorem RR_388 (L : Nat) (xs : Nat → Int32) : (MC_388 L xs).2.2.2 = RC_388 := nw_R (LN_387 L xs) (RR_387 L xs)
def IC_388 : Nat → Nat → Int32 := g_row IC_386 150 (fun _ => 0)
theorem II_388 (L : Nat) (xs : Nat → Int32) : ∀ i, i ≠ 0 → (MC_388 L xs).2.1 i = IC_388 i := nw_I (LN_387 L xs) (II_387 L xs)
theorem LL_388 (L : Nat) (xs : Nat → Int32) : ∀ i k, (MC_388 L xs).2.2.1 i k = 0 := nw_L (LL_387 L xs)
def MC_389 (L : Nat) (xs : Nat → Int32) : gM := mR (MC_388 L xs) 148 2 (some 150)
set_option maxRecDepth 20000 in
theorem ST_389 (L : Nat) (xs : Nat → Int32) : pR 7 (MC_388 L xs) (some 148) 2 (some 150) = some (MC_389 L xs) := pR_of (by unfold g_k; rw [KC_388]; rfl)
theorem KC_389 (L : Nat) (xs : Nat → Int32) : (MC_389 L xs).1 = (g_K0 L).take 151 := (mR_K (MC_388 L xs) _ _ _).trans (KC_388 L xs)
set_option maxRecDepth 20000 in
theorem LN_389 (L : Nat) (xs : Nat → Int32) : (MC_389 L xs).1.length = 151 := by rw [KC_389]; rfl
def RC_389 : Nat → Nat → Option Nat := g_up RC_388 148 2 (some 150)
theorem RR_389 (L : Nat) (xs : Nat → Int32) : (MC_389 L xs).2.2.2 = RC_389 := mR_Rr (RR_388 L xs)
theorem II_389 (L : Nat) (xs : Nat → Int32) : ∀ i, i ≠ 0 → (MC_389 L xs).2.1 i = IC_388 i := mR_In (II_388 L xs)
theorem LL_389 (L : Nat) (xs : Nat → Int32) : ∀ i k, (MC_389 L xs).2.2.1 i k = 0 := mR_Ln (LL_388 L xs)
def MC_390 (L : Nat) (xs : Nat → Int32) : gM := mI (MC_389 L xs) 148 3 (0 : Int32)
set_option maxRecDepth 20000 in
theorem ST_390 (L : Nat) (xs : Nat → Int32) : pI 7 (MC_389 L xs) (some 148) 3 (0 : Int32) = some (MC_390 L xs) := pI_of (by unfold g_k; rw [KC_389]; rfl)
theorem KC_390 (L : Nat) (xs : Nat → Int32) : (MC_390 L xs).1 = (g_K0 L).take 151 := (mI_K (MC_389 L xs) _ _ _).trans (KC_389 L xs)
set_option maxRecDepth 20000 in
theorem LN_390 (L : Nat) (xs : Nat → Int32) : (MC_390 L xs).1.length = 151 := by rw [KC_390]; rfl
theorem RR_390 (L : Nat) (xs : Nat → Int32) : (MC_390 L xs).2.2.2 = RC_389 := (mI_Rn (MC_389 L xs) _ _ _).trans (RR_389 L xs)
def IC_390 : Nat → Nat → Int32 := g_up IC_388 148 3 (0)
theorem II_390 (L : Nat) (xs : Nat → Int32) : ∀ i, i ≠ 0 → (MC_390 L xs).2.1 i = IC_390 i := mI_I (II_389 L xs)
theorem LL_390 (L : Nat) (xs : Nat → Int32) : ∀ i k, (MC_390 L xs).2.2.1 i k = 0 := mI_Ln (LL_389 L xs)
def MC_391 (L : Nat) (xs : Nat → Int32) : gM := mI (MC_390 L xs) 148 4 (0 : Int32)
set_option maxRecDepth 20000 in
theorem ST_391 (L : Nat) (xs : Nat → Int32) : pI 7 (MC_390 L xs) (some 148) 4 (0 : Int32) = some (MC_391 L xs) := pI_of (by unfold g_k; rw [KC_390]; rfl)
theorem KC_391 (L : Nat) (xs : Nat → Int32) : (MC_391 L xs).1 = (g_K0 L).take 151 := (mI_K (MC_390 L xs) _ _ _).trans (KC_390 L xs)
set_option maxRecDepth 20000 in
theorem LN_391 (L : Nat) (xs : Nat → Int32) : (MC_391 L xs).1.length = 151 := by rw [KC_391]; rfl
theorem RR_391 (L : Nat) (xs : Nat → Int32) : (MC_391 L xs).2.2.2 = RC_389 := (mI_Rn (MC_390 L xs) _ _ _).trans (RR_390 L xs)
def IC_391 : Nat → Nat → Int32 := g_up IC_390 148 4 (0)
theorem II_391 (L : Nat) (xs : Nat → Int32) : ∀ i, i ≠ 0 → (MC_391 L xs).2.1 i = IC_391 i := mI_I (II_390 L xs)
theorem LL_391 (L : Nat) (xs : Nat → Int32) : ∀ i k, (MC_391 L xs).2.2.1 i k = 0 := mI_Ln (LL_390 L xs)
def MC_392 (L : Nat) (xs : Nat → Int32) : gM := mI (MC_391 L xs) 148 5 (0 : Int32)
set_option maxRecDepth 20000 in
theorem ST_392 (L : Nat) (xs : Nat → Int32) : pI 7 (MC_391 L xs) (some 148) 5 (0 : Int32) = some (MC_392 L xs) := pI_of (by unfold g_k; rw [KC_391]; rfl)
theorem KC_392 (L : Nat) (xs : Nat → Int32) : (MC_392 L xs).1 = (g_K0 L).take 151 := (mI_K (MC_391 L xs) _ _ _).trans (KC_391 L xs)
set_option maxRecDepth 20000 in
theorem LN_392 (L : Nat) (xs : Nat → Int32) : (MC_392 L xs).1.length = 151 := by rw [KC_392]; rfl
theorem RR_392 (L : Nat) (xs : Nat → Int32) : (MC_392 L xs).2.2.2 = RC_389 := (mI_Rn (MC_391 L xs) _ _ _).trans (RR_391 L xs)
def IC_392 : Nat → Nat → Int32 := g_up IC_391 148 5 (0)
theorem II_392 (L : Nat) (xs : Nat → Int32) : ∀ i, i ≠ 0 → (MC_392 L xs).2.1 i = IC_392 i := mI_I (II_391 L xs)
theorem LL_392 (L : Nat) (xs : Nat → Int32) : ∀ i k, (MC_392 L xs).2.2.1 i k = 0 := mI_Ln (LL_391 L xs)
def MC_393 (L : Nat) (xs : Nat → Int32) : gM := mR (MC_392 L xs) 148 0 (some 131)
set_option maxRecDepth 20000 in
theorem ST_393 (L : Nat) (xs : Nat → Int32) : pR 7 (MC_392 L xs) (some 148) 0 (some 131) = some (MC_393 L xs) := pR_of (by unfold g_k; rw [KC_392]; rfl)
theorem KC_393 (L : Nat) (xs : Nat → Int32) : (MC_393 L xs).1 = (g_K0 L).take 151 := (mR_K (MC_392 L xs) _ _ _).trans (KC_392 L xs)
set_option maxRecDepth 20000 in
theorem LN_393 (L : Nat) (xs : Nat → Int32) : (MC_393 L xs).1.length = 151 := by rw [KC_393]; rfl
def RC_393 : Nat → Nat → Option Nat := g_up RC_389 148 0 (some 131)
theorem RR_393 (L : Nat) (xs : Nat → Int32) : (MC_393 L xs).2.2.2 = RC_393 := mR_Rr (RR_392 L xs)
theorem II_393 (L : Nat) (xs : Nat → Int32) : ∀ i, i ≠ 0 → (MC_393 L xs).2.1 i = IC_392 i := mR_In (II_392 L xs)
theorem LL_393 (L : Nat) (xs : Nat → Int32) : ∀ i k, (MC_393 L xs).2.2.1 i k = 0 := mR_Ln (LL_392 L xs)
def MC_394 (L : Nat) (xs : Nat → Int32) : gM := mR (MC_393 L xs) 2 2 (some 148)
set_option maxRecDepth 20000 in
theorem ST_394 (L : Nat) (xs : Nat → Int32) : pR 11 (MC_393 L xs) (some 2) 2 (some 148) = some (MC_394 L xs) := pR_of (by unfold g_k; rw [KC_393]; rfl)
theorem KC_394 (L : Nat) (xs : Nat → Int32) : (MC_394 L xs).1 = (g_K0 L).take 151 := (mR_K (MC_393 L xs) _ _ _).trans (KC_393 L xs)
set_option maxRecDepth 20000 in
theorem LN_394 (L : Nat) (xs : Nat → Int32) : (MC_394 L xs).1.length = 151 := by rw [KC_394]; rfl
def RC_394 : Nat → Nat → Option Nat := g_up RC_393 2 2 (some 148)
theorem RR_394 (L : Nat) (xs : Nat → Int32) : (MC_394 L xs).2.2.2 = RC_394 := mR_Rr (RR_393 L xs)
theorem II_394 (L : Nat) (xs : Nat → Int32) : ∀ i, i ≠ 0 → (MC_394 L xs).2.1 i = IC_392 i := mR_In (II_393 L xs)
theorem LL_394 (L : Nat) (xs : Nat → Int32) : ∀ i k, (MC_394 L xs).2.2.1 i k = 0 := mR_Ln (LL_393 L xs)
set_option maxRecDepth 20000 in
theorem GR_21 (L : Nat) (xs : Nat → Int32) : gR 11 (MC_394 L xs) (some 2) 8 = some (some 121) := gR_of (by unfold g_k; rw [KC_394]; rfl) (by rw [RR_394]; decide +kernel)
def MC_395 (L : Nat) (xs : Nat → Int32) : gM := nw (3, 0) (MC_394 L xs)
theorem NW_395 (L : Nat) (xs : Nat → Int32) : nw (3, 0) (MC_394 L xs) = MC_395 L xs := rfl
set_option maxRecDepth 20000 in
theorem KC_395 (L : Nat) (xs : Nat → Int32) : (MC_395 L xs).1 = (g_K0 L).take 152 := (nw_K _ (MC_394 L xs)).trans (by rw [KC_394]; rfl)
set_option maxRecDepth 20000 in
theorem LN_395 (L : Nat) (xs : Nat → Int32) : (MC_395 L xs).1.length = 152 := by rw [KC_395]; rfl
def RC_395 : Nat → Nat → Option Nat := g_row RC_394 151 (fun _ => none)
theorem RR_395 (L : Nat) (xs : Nat → Int32) : (MC_395 L xs).2.2.2 = RC_395 := nw_R (LN_394 L xs) (RR_394 L xs)
def IC_395 : Nat → Nat → Int32 := g_row IC_392 151 (fun _ => 0)
theorem II_395 (L : Nat) (xs : Nat → Int32) : ∀ i, i ≠ 0 → (MC_395 L xs).2.1 i = IC_395 i := nw_I (LN_394 L xs) (II_394 L xs)
theorem LL_395 (L : Nat) (xs : Nat → Int32) : ∀ i k, (MC_395 L xs).2.2.1 i k = 0 := nw_L (LL_394 L xs)
def MC_396 (L : Nat) (xs : Nat → Int32) : gM := nw (8, 0) (MC_395 L xs)
theorem NW_396 (L : Nat) (xs : Nat → Int32) : nw (8, 0) (MC_395 L xs) = MC_396 L xs := rfl
set_option maxRecDepth 20000 in
theorem KC_396 (L : Nat) (xs : Nat → Int32) : (MC_396 L xs).1 = (g_K0 L).take 153 := (nw_K _ (MC_395 L xs)).trans (by rw [KC_395]; rfl)
set_option maxRecDepth 20000 in
theorem LN_396 (L : Nat) (xs : Nat → Int32) : (MC_396 L xs).1.length = 153 := by rw [KC_396]; rfl
def RC_396 : Nat → Nat → Option Nat := g_row RC_395 152 (fun _ => none)
theorem RR_396 (L : Nat) (xs : Nat → Int32) : (MC_396 L xs).2.2.2 = RC_396 := nw_R (LN_395 L xs) (RR_395 L xs)
def IC_396 : Nat → Nat → Int32 := g_row IC_395 152 (fun _ => 0)
theorem II_396 (L : Nat) (xs : Nat → Int32) : ∀ i, i ≠ 0 → (MC_396 L xs).2.1 i = IC_396 i := nw_I (LN_395 L xs) (II_395 L xs)
theorem LL_396 (L : Nat) (xs : Nat → Int32) : ∀ i k, (MC_396 L xs).2.2.1 i k = 0 := nw_L (LL_395 L xs)
def MC_397 (L : Nat) (xs : Nat → Int32) : gM := nw (20, 49) (MC_396 L xs)
theorem NW_397 (L : Nat) (xs : Nat → Int32) : nw (20, 49) (MC_396 L xs) = MC_397 L xs := rfl
set_option maxRecDepth 20000 in
theorem KC_397 (L : Nat) (xs : Nat → Int32) : (MC_397 L xs).1 = (g_K0 L).take 154 := (nw_K _ (MC_396 L xs)).trans (by rw [KC_396]; rfl)
set_option maxRecDepth 20000 in
theorem LN_397 (L : Nat) (xs : Nat → Int32) : (MC_397 L xs).1.length = 154 := by rw [KC_397]; rfl
def RC_397 : Nat → Nat → Option Nat := g_row RC_396 153 (fun _ => none)
theorem RR_397 (L : Nat) (xs : Nat → Int32) : (MC_397 L xs).2.2.2 = RC_397 := nw_R (LN_396 L xs) (RR_396 L xs)
def IC_397 : Nat → Nat → Int32 := g_row IC_396 153 (fun _ => 0)
theorem II_397 (L : Nat) (xs : Nat → Int32) : ∀ i, i ≠ 0 → (MC_397 L xs).2.1 i = IC_397 i := nw_I (LN_396 L xs) (II_396 L xs)
theorem LL_397 (L : Nat) (xs : Nat → Int32) : ∀ i k, (MC_397 L xs).2.2.1 i k = 0 := nw_L (LL_396 L xs)
def MC_398 (L : Nat) (xs : Nat → Int32) : gM := mR (MC_397 L xs) 152 0 (some 153)
set_option maxRecDepth 20000 in
theorem ST_398 (L : Nat) (xs : Nat → Int32) : pR 8 (MC_397 L xs) (some 152) 0 (some 153) = some (MC_398 L xs) := pR_of (by unfold g_k; rw [KC_397]; rfl)
theorem KC_398 (L : Nat) (xs : Nat → Int32) : (MC_398 L xs).1 = (g_K0 L).take 154 := (mR_K (MC_397 L xs) _ _ _).trans (KC_397 L xs)
set_option maxRecDepth 20000 in
theorem LN_398 (L : Nat) (xs : Nat → Int32) : (MC_398 L xs).1.length = 154 := by rw [KC_398]; rfl
def RC_398 : Nat → Nat → Option Nat := g_up RC_397 152 0 (some 153)
theorem RR_398 (L : Nat) (xs : Nat → Int32) : (MC_398 L xs).2.2.2 = RC_398 := mR_Rr (RR_397 L xs)
theorem II_398 (L : Nat) (xs : Nat → Int32) : ∀ i, i ≠ 0 → (MC_398 L xs).2.1 i = IC_397 i := mR_In (II_397 L xs)
theorem LL_398 (L : Nat) (xs : Nat → Int32) : ∀ i k, (MC_398 L xs).2.2.1 i k = 0 := mR_Ln (LL_397 L xs)
def MC_399 (L : Nat) (xs : Nat → Int32) : gM := nw (20, 49) (MC_398 L xs)
theorem NW_399 (L : Nat) (xs : Nat → Int32) : nw (20, 49) (MC_398 L xs) = MC_399 L xs := rfl
set_option maxRecDepth 20000 in
theorem KC_399 (L : Nat) (xs : Nat → Int32) : (MC_399 L xs).1 = (g_K0 L).take 155 := (nw_K _ (MC_398 L xs)).trans (by rw [KC_398]; rfl)
set_option maxRecDepth 20000 in
theorem LN_399 (L : Nat) (xs : Nat → Int32) : (MC_399 L xs).1.length = 155 := by rw [KC_399]; rfl
def RC_399 : Nat → Nat → Option Nat := g_row RC_398 154 (fun _ => none)
theorem RR_399 (L : Nat) (xs : Nat → Int32) : (MC_399 L xs).2.2.2 = RC_399 := nw_R (LN_398 L xs) (RR_398 L xs)
def IC_399 : Nat → Nat → Int32 := g_row IC_397 154 (fun _ => 0)
theorem II_399 (L : Nat) (xs : Nat → Int32) : ∀ i, i ≠ 0 → (MC_399 L xs).2.1 i = IC_399 i := nw_I (LN_398 L xs) (II_398 L xs)
theorem LL_399 (L : Nat) (xs : Nat → Int32) : ∀ i k, (MC_399 L xs).2.2.1 i k = 0 := nw_L (LL_398 L xs)
def MC_400 (L : Nat) (xs : Nat → Int32) : gM := mR (MC_399 L xs) 152 1 (some 154)
set_option maxRecDepth 20000 in
theorem ST_400 (L : Nat) (xs : Nat → Int32) : pR 8 (MC_399 L xs) (some 152) 1 (some 154) = some (MC_400 L xs) := pR_of (by unfold g_k; rw [KC_399]; rfl)
theorem KC_400 (L : Nat) (xs : Nat → Int32) : (MC_400 L xs).1 = (g_K0 L).take 155 := (mR_K (MC_399 L xs) _ _ _).trans (KC_399 L xs)
set_option maxRecDepth 20000 in
theorem LN_400 (L : Nat) (xs : Nat → Int32) : (MC_400 L xs).1.length = 155 := by rw [KC_400]; rfl
def RC_400 : Nat → Nat → Option Nat := g_up RC_399 152 1 (some 154)
theorem RR_400 (L : Nat) (xs : Nat → Int32) : (MC_400 L xs).2.2.2 = RC_400 := mR_Rr (RR_399 L xs)
theorem II_400 (L : Nat) (xs : Nat → Int32) : ∀ i, i ≠ 0 → (MC_400 L xs).2.1 i = IC_399 i := mR_In (II_399 L xs)
theorem LL_400 (L : Nat) (xs : Nat → Int32) : ∀ i k, (MC_400 L xs).2.2.1 i k = 0 := mR_Ln (LL_399 L xs)
def MC_401 (L : Nat) (xs : Nat → Int32) : gM := nw (20, 7) (MC_400 L xs)
theorem NW_401 (L : Nat) (xs : Nat → Int32) : nw (20, 7) (MC_400 L xs) = MC_401 L xs := rfl
set_option maxRecDepth 20000 in
theorem KC_401 (L : Nat) (xs : Nat → Int32) : (MC_401 L xs).1 = (g_K0 L).take 156 := (nw_K _ (MC_400 L xs)).trans (by rw [KC_400]; rfl)
set_option maxRecDepth 20000 in
theorem LN_401 (L : Nat) (xs : Nat → Int32) : (MC_401 L xs).1.length = 156 := by rw [KC_401]; rfl
def RC_401 : Nat → Nat → Option Nat := g_row RC_400 155 (fun _ => none)
theorem RR_401 (L : Nat) (xs : Nat → Int32) : (MC_401 L xs).2.2.2 = RC_401 := nw_R (LN_400 L xs) (RR_400 L xs)
def IC_401 : Nat → Nat → Int32 := g_row IC_399 155 (fun _ => 0)
theorem II_401 (L : Nat) (xs : Nat → Int32) : ∀ i, i ≠ 0 → (MC_401 L xs).2.1 i = IC_401 i := nw_I (LN_400 L xs) (II_400 L xs)
theorem LL_401 (L : Nat) (xs : Nat → Int32) : ∀ i k, (MC_401 L xs).2.2.1 i k = 0 := nw_L (LL_400 L xs)
def MC_402 (L : Nat) (xs : Nat → Int32) : gM := mR (MC_401 L xs) 152 2 (some 155)
set_option maxRecDepth 20000 in
theorem ST_402 (L : Nat) (xs : Nat → Int32) : pR 8 (MC_401 L xs) (some 152) 2 (some 155) = some (MC_402 L xs) := pR_of (by unfold g_k; rw [KC_401]; rfl)
theorem KC_402 (L : Nat) (xs : Nat → Int32) : (MC_402 L xs).1 = (g_K0 L).take 156 := (mR_K (MC_401 L xs) _ _ _).trans (KC_401 L xs)
set_option maxRecDepth 20000 in
theorem LN_402 (L : Nat) (xs : Nat → Int32) : (MC_402 L xs).1.length = 156 := by rw [KC_402]; rfl
def RC_402 : Nat → Nat → Option Nat := g_up RC_401 152 2 (some 155)
theorem RR_402 (L : Nat) (xs : Nat → Int32) : (MC_402 L xs).2.2.2 = RC_402 := mR_Rr (RR_401 L xs)
theorem II_402 (L : Nat) (xs : Nat → Int32) : ∀ i, i ≠ 0 → (MC_402 L xs).2.1 i = IC_401 i := mR_In (II_401 L xs)
theorem LL_402 (L : Nat) (xs : Nat → Int32) : ∀ i k, (MC_402 L xs).2.2.1 i k = 0 := mR_Ln (LL_401 L xs)
def MC_403 (L : Nat) (xs : Nat → Int32) : gM := nw (20, 7) (MC_402 L xs)
theorem NW_403 (L : Nat) (xs : Nat → Int32) : nw (20, 7) (MC_402 L xs) = MC_403 L xs := rfl
set_option maxRecDepth 20000 in
theorem KC_403 (L : Nat) (xs : Nat → Int32) : (MC_403 L xs).1 = (g_K0 L).take 157 := (nw_K _ (MC_402 L xs)).trans (by rw [KC_402]; rfl)
set_option maxRecDepth 20000 in
theorem LN_403 (L : Nat) (xs : Nat → Int32) : (MC_403 L xs).1.length = 157 := by rw [KC_403]; rfl
def RC_403 : Nat → Nat → Option Nat := g_row RC_402 156 (fun _ => none)
theorem RR_403 (L : Nat) (xs : Nat → Int32) : (MC_403 L xs).2.2.2 = RC_403 := nw_R (LN_402 L xs) (RR_402 L xs)
def IC_403 : Nat → Nat → Int32 := g_row IC_401 156 (fun _ => 0)
theorem II_403 (L : Nat) (xs : Nat → Int32) : ∀ i, i ≠ 0 → (MC_403 L xs).2.1 i = IC_403 i := nw_I (LN_402 L xs) (II_402 L xs)
theorem LL_403 (L : Nat) (xs : Nat → Int32) : ∀ i k, (MC_403 L xs).2.2.1 i k = 0 := nw_L (LL_402 L xs)
def MC_404 (L : Nat) (xs : Nat → Int32) : gM := mR (MC_403 L xs) 152 3 (some 156)
set_option maxRecDepth 20000 in
theorem ST_404 (L : Nat) (xs : Nat → Int32) : pR 8 (MC_403 L xs) (some 152) 3 (some 156) = some (MC_404 L xs) := pR_of (by unfold g_k; rw [KC_403]; rfl)
theorem KC_404 (L : Nat) (xs : Nat → Int32) : (MC_404 L xs).1 = (g_K0 L).take 157 := (mR_K (MC_403 L xs) _ _ _).trans (KC_403 L xs)
set_option maxRecDepth 20000 in
theorem LN_404 (L : Nat) (xs : Nat → Int32) : (MC_404 L xs).1.length = 157 := by rw [KC_404]; rfl
def RC_404 : Nat → Nat → Option Nat := g_up RC_403 152 3 (some 156)
theorem RR_404 (L : Nat) (xs : Nat → Int32) : (MC_404 L xs).2.2.2 = RC_404 := mR_Rr (RR_403 L xs)
theorem II_404 (L : Nat) (xs : Nat → Int32) : ∀ i, i ≠ 0 → (MC_404 L xs).2.1 i = IC_403 i := mR_In (II_403 L xs)
theorem LL_404 (L : Nat) (xs : Nat → Int32) : ∀ i k, (MC_404 L xs).2.2.1 i k = 0 := mR_Ln (LL_403 L xs)
def MC_405 (L : Nat) (xs : Nat → Int32) : gM := mI (MC_404 L xs) 152 4 (0 : Int32)
set_option maxRecDepth 20000 in
theorem ST_405 (L : Nat) (xs : Nat → Int32) : pI 8 (MC_404 L xs) (some 152) 4 (0 : Int32) = some (MC_405 L xs) := pI_of (by unfold g_k; rw [KC_404]; rfl)
theorem KC_405 (L : Nat) (xs : Nat → Int32) : (MC_405 L xs).1 = (g_K0 L).take 157 := (mI_K (MC_404 L xs) _ _ _).trans (KC_404 L xs)
set_option maxRecDepth 20000 in
theorem LN_405 (L : Nat) (xs : Nat → Int32) : (MC_405 L xs).1.length = 157 := by rw [KC_405]; rfl
theorem RR_405 (L : Nat) (xs : Nat → Int32) : (MC_405 L xs).2.2.2 = RC_404 := (mI_Rn (MC_404 L xs) _ _ _).trans (RR_404 L xs)
def IC_405 : Nat → Nat → Int32 := g_up IC_403 152 4 (0)
theorem II_405 (L : Nat) (xs : Nat → Int32) : ∀ i, i ≠ 0 → (MC_405 L xs).2.1 i = IC_405 i := mI_I (II_404 L xs)
theorem LL_405 (L : Nat) (xs : Nat → Int32) : ∀ i k, (MC_405 L xs).2.2.1 i k = 0 := mI_Ln (LL_404 L xs)
def MC_406 (L : Nat) (xs : Nat → Int32) : gM := mI (MC_405 L xs) 152 5 (0 : Int32)
set_option maxRecDepth 20000 in
theorem ST_406 (L : Nat) (xs : Nat → Int32) : pI 8 (MC_405 L xs) (some 152) 5 (0 : Int32) = some (MC_406 L xs) := pI_of (by unfold g_k; rw [KC_405]; rfl)
theorem KC_406 (L : Nat) (xs : Nat → Int32) : (MC_406 L xs).1 = (g_K0 L).take 157 := (mI_K (MC_405 L xs) _ _ _).trans (KC_405 L xs)
set_option maxRecDepth 20000 in
theorem LN_406 (L : Nat) (xs : Nat → Int32) : (MC_406 L xs).1.length = 157 := by rw [KC_406]; rfl
theorem RR_406 (L : Nat) (xs : Nat → Int32) : (MC_406 L xs).2.2.2 = RC_404 := (mI_Rn (MC_405 L xs) _ _ _).trans (RR_405 L xs)
def IC_406 : Nat → Nat → Int32 := g_up IC_405 152 5 (0)
theorem II_406 (L : Nat) (xs : Nat → Int32) : ∀ i, i ≠ 0 → (MC_406 L xs).2.1 i = IC_406 i := mI_I (II_405 L xs)
theorem LL_406 (L : Nat) (xs : Nat → Int32) : ∀ i k, (MC_406 L xs).2.2.1 i k = 0 := mI_Ln (LL_405 L xs)
def MC_407 (L : Nat) (xs : Nat → Int32) : gM := mI (MC_406 L xs) 152 6 (0 : Int32)
set_option maxRecDepth 20000 in
theorem ST_407 (L : Nat) (xs : Nat → Int32) : pI 8 (MC_406 L xs) (some 152) 6 (0 : Int32) = some (MC_407 L xs) := pI_of (by unfold g_k; rw [KC_406]; rfl)
theorem KC_407 (L : Nat) (xs : Nat → Int32) : (MC_407 L xs).1 = (g_K0 L).take 157 := (mI_K (MC_406 L xs) _ _ _).trans (KC_406 L xs)
set_option maxRecDepth 20000 in
theorem LN_407 (L : Nat) (xs : Nat → Int32) : (MC_407 L xs).1.length = 157 := by rw [KC_407]; rfl
theorem RR_407 (L : Nat) (xs : Nat → Int32) : (MC_407 L xs).2.2.2 = RC_404 := (mI_Rn (MC_406 L xs) _ _ _).trans (RR_406 L xs)
def IC_407 : Nat → Nat → Int32 := g_up IC_406 152 6 (0)
theorem II_407 (L : Nat) (xs : Nat → Int32) : ∀ i, i ≠ 0 → (MC_407 L xs).2.1 i = IC_407 i := mI_I (II_406 L xs)
theorem LL_407 (L : Nat) (xs : Nat → Int32) : ∀ i k, (MC_407 L xs).2.2.1 i k = 0 := mI_Ln (LL_406 L xs)
def MC_408 (L : Nat) (xs : Nat → Int32) : gM := mR (MC_407 L xs) 151 0 (some 152)
set_option maxRecDepth 20000 in
theorem ST_408 (L : Nat) (xs : Nat → Int32) : pR 3 (MC_407 L xs) (some 151) 0 (some 152) = some (MC_408 L xs) := pR_of (by unfold g_k; rw [KC_407]; rfl)
theorem KC_408 (L : Nat) (xs : Nat → Int32) : (MC_408 L xs).1 = (g_K0 L).take 157 := (mR_K (MC_407 L xs) _ _ _).trans (KC_407 L xs)
set_option maxRecDepth 20000 in
theorem LN_408 (L : Nat) (xs : Nat → Int32) : (MC_408 L xs).1.length = 157 := by rw [KC_408]; rfl
def RC_408 : Nat → Nat → Option Nat := g_up RC_404 151 0 (some 152)
theorem RR_408 (L : Nat) (xs : Nat → Int32) : (MC_408 L xs).2.2.2 = RC_408 := mR_Rr (RR_407 L xs)
theorem II_408 (L : Nat) (xs : Nat → Int32) : ∀ i, i ≠ 0 → (MC_408 L xs).2.1 i = IC_407 i := mR_In (II_407 L xs)
theorem LL_408 (L : Nat) (xs : Nat → Int32) : ∀ i k, (MC_408 L xs).2.2.1 i k = 0 := mR_Ln (LL_407 L xs)
def MC_409 (L : Nat) (xs : Nat → Int32) : gM := mR (MC_408 L xs) 151 1 none
set_option maxRecDepth 20000 in
theorem ST_409 (L : Nat) (xs : Nat → Int32) : pR 3 (MC_408 L xs) (some 151) 1 none = some (MC_409 L xs) := pR_of (by unfold g_k; rw [KC_408]; rfl)
theorem KC_409 (L : Nat) (xs : Nat → Int32) : (MC_409 L xs).1 = (g_K0 L).take 157 := (mR_K (MC_408 L xs) _ _ _).trans (KC_408 L xs)
set_option maxRecDepth 20000 in
theorem LN_409 (L : Nat) (xs : Nat → Int32) : (MC_409 L xs).1.length = 157 := by rw [KC_409]; rfl
def RC_409 : Nat → Nat → Option Nat := g_up RC_408 151 1 none
theorem RR_409 (L : Nat) (xs : Nat → Int32) : (MC_409 L xs).2.2.2 = RC_409 := mR_Rr (RR_408 L xs)
theorem II_409 (L : Nat) (xs : Nat → Int32) : ∀ i, i ≠ 0 → (MC_409 L xs).2.1 i = IC_407 i := mR_In (II_408 L xs)
theorem LL_409 (L : Nat) (xs : Nat → Int32) : ∀ i k, (MC_409 L xs).2.2.1 i k = 0 := mR_Ln (LL_408 L xs)
def MC_410 (L : Nat) (xs : Nat → Int32) : gM := mI (MC_409 L xs) 151 2 (-1 : Int32)
set_option maxRecDepth 20000 in
theorem ST_410 (L : Nat) (xs : Nat → Int32) : pI 3 (MC_409 L xs) (some 151) 2 (-1 : Int32) = some (MC_410 L xs) := pI_of (by unfold g_k; rw [KC_409]; rfl)
theorem KC_410 (L : Nat) (xs : Nat → Int32) : (MC_410 L xs).1 = (g_K0 L).take 157 := (mI_K (MC_409 L xs) _ _ _).trans (KC_409 L xs)
set_option maxRecDepth 20000 in
theorem LN_410 (L : Nat) (xs : Nat → Int32) : (MC_410 L xs).1.length = 157 := by rw [KC_410]; rfl
theorem RR_410 (L : Nat) (xs : Nat → Int32) : (MC_410 L xs).2.2.2 = RC_409 := (mI_Rn (MC_409 L xs) _ _ _).trans (RR_409 L xs)
def IC_410 : Nat → Nat → Int32 := g_up IC_407 151 2 (-1)
theorem II_410 (L : Nat) (xs : Nat → Int32) : ∀ i, i ≠ 0 → (MC_410 L xs).2.1 i = IC_410 i := mI_I (II_409 L xs)
theorem LL_410 (L : Nat) (xs : Nat → Int32) : ∀ i k, (MC_410 L xs).2.2.1 i k = 0 := mI_Ln (LL_409 L xs)
def MC_411 (L : Nat) (xs : Nat → Int32) : gM := mI (MC_410 L xs) 151 3 (0 : Int32)
set_option maxRecDepth 20000 in
theorem ST_411 (L : Nat) (xs : Nat → Int32) : pI 3 (MC_410 L xs) (some 151) 3 (0 : Int32) = some (MC_411 L xs) := pI_of (by unfold g_k; rw [KC_410]; rfl)
theorem KC_411 (L : Nat) (xs : Nat → Int32) : (MC_411 L xs).1 = (g_K0 L).take 157 := (mI_K (MC_410 L xs) _ _ _).trans (KC_410 L xs)
set_option maxRecDepth 20000 in
theorem LN_411 (L : Nat) (xs : Nat → Int32) : (MC_411 L xs).1.length = 157 := by rw [KC_411]; rfl
theorem RR_411 (L : Nat) (xs : Nat → Int32) : (MC_411 L xs).2.2.2 = RC_409 := (mI_Rn (MC_410 L xs) _ _ _).trans (RR_410 L xs)
def IC_411 : Nat → Nat → Int32 := g_up IC_410 151 3 (0)
theorem II_411 (L : Nat) (xs : Nat → Int32) : ∀ i, i ≠ 0 → (MC_411 L xs).2.1 i = IC_411 i := mI_I (II_410 L xs)
theorem LL_411 (L : Nat) (xs : Nat → Int32) : ∀ i k, (MC_411 L xs).2.2.1 i k = 0 := mI_Ln (LL_410 L xs)
def MC_412 (L : Nat) (xs : Nat → Int32) : gM := mR (MC_411 L xs) 121 0 (some 151)
set_option maxRecDepth 20000 in
theorem ST_412 (L : Nat) (xs : Nat → Int32) : sR 26 (MC_411 L xs) (some 121) (0 : Int32) (some 151) = some (MC_412 L xs) := sR_of (n := 4) (by unfold g_k; rw [KC_411]; rfl) (by unfold g_k; rw [KC_411]; rfl) (by decide) (by decide)
theorem KC_412 (L : Nat) (xs : Nat → Int32) : (MC_412 L xs).1 = (g_K0 L).take 157 := (mR_K (MC_411 L xs) _ _ _).trans (KC_411 L xs)
set_option maxRecDepth 20000 in
theorem LN_412 (L : Nat) (xs : Nat → Int32) : (MC_412 L xs).1.length = 157 := by rw [KC_412]; rfl
def RC_412 : Nat → Nat → Option Nat := g_up RC_409 121 0 (some 151)
theorem RR_412 (L : Nat) (xs : Nat → Int32) : (MC_412 L xs).2.2.2 = RC_412 := mR_Rr (RR_411 L xs)
theorem II_412 (L : Nat) (xs : Nat → Int32) : ∀ i, i ≠ 0 → (MC_412 L xs).2.1 i = IC_411 i := mR_In (II_411 L xs)
theorem LL_412 (L : Nat) (xs : Nat → Int32) : ∀ i k, (MC_412 L xs).2.2.1 i k = 0 := mR_Ln (LL_411 L xs)
set_option maxRecDepth 20000 in
theorem GR_22 (L : Nat) (xs : Nat → Int32) : gR 11 (MC_412 L xs) (some 2) 8 = some (some 121) := gR_of (by unfold g_k; rw [KC_412]; rfl) (by rw [RR_412]; decide +kernel)
def MC_413 (L : Nat) (xs : Nat → Int32) : gM := nw (3, 0) (MC_412 L xs)
theorem NW_413 (L : Nat) (xs : Nat → Int32) : nw (3, 0) (MC_412 L xs) = MC_413 L xs := rfl
set_option maxRecDepth 20000 in
theorem KC_413 (L : Nat) (xs : Nat → Int32) : (MC_413 L xs).1 = (g_K0 L).take 158 := (nw_K _ (MC_412 L xs)).trans (by rw [KC_412]; rfl)
set_option maxRecDepth 20000 in
theorem LN_413 (L : Nat) (xs : Nat → Int32) : (MC_413 L xs).1.length = 158 := by rw [KC_413]; rfl
def RC_413 : Nat → Nat → Option Nat := g_row RC_412 157 (fun _ => none)
theorem RR_413 (L : Nat) (xs : Nat → Int32) : (MC_413 L xs).2.2.2 = RC_413 := nw_R (LN_412 L xs) (RR_412 L xs)
def IC_413 : Nat → Nat → Int32 := g_row IC_411 157 (fun _ => 0)
theorem II_413 (L : Nat) (xs : Nat → Int32) : ∀ i, i ≠ 0 → (MC_413 L xs).2.1 i = IC_413 i := nw_I (LN_412 L xs) (II_412 L xs)
theorem LL_413 (L : Nat) (xs : Nat → Int32) : ∀ i k, (MC_413 L xs).2.2.1 i k = 0 := nw_L (LL_412 L xs)
def MC_414 (L : Nat) (xs : Nat → Int32) : gM := nw (8, 0) (MC_413 L xs)
theorem NW_414 (L : Nat) (xs : Nat → Int32) : nw (8, 0) (MC_413 L xs) = MC_414 L xs := rfl
set_option maxRecDepth 20000 in
theorem KC_414 (L : Nat) (xs : Nat → Int32) : (MC_414 L xs).1 = (g_K0 L).take 159 := (nw_K _ (MC_413 L xs)).trans (by rw [KC_413]; rfl)
set_option maxRecDepth 20000 in
theorem LN_414 (L : Nat) (xs : Nat → Int32) : (MC_414 L xs).1.length = 159 := by rw [KC_414]; rfl
def RC_414 : Nat → Nat → Option Nat := g_row RC_413 158 (fun _ => none)
theorem RR_414 (L : Nat) (xs : Nat → Int32) : (MC_414 L xs).2.2.2 = RC_414 := nw_R (LN_413 L xs) (RR_413 L xs)
def IC_414 : Nat → Nat → Int32 := g_row IC_413 158 (fun _ => 0)
theorem II_414 (L : Nat) (xs : Nat → Int32) : ∀ i, i ≠ 0 → (MC_414 L xs).2.1 i = IC_414 i := nw_I (LN_413 L xs) (II_413 L xs)
theorem LL_414 (L : Nat) (xs : Nat → Int32) : ∀ i k, (MC_414 L xs).2.2.1 i k = 0 := nw_L (LL_413 L xs)
def MC_415 (L : Nat) (xs : Nat → Int32) : gM := nw (20, 49) (MC_414 L xs)
theorem NW_415 (L : Nat) (xs : Nat → Int32) : nw (20, 49) (MC_414 L xs) = MC_415 L xs := rfl
set_option maxRecDepth 20000 in
theorem KC_415 (L : Nat) (xs : Nat → Int32) : (MC_415 L xs).1 = (g_K0 L).take 160 := (nw_K _ (MC_414 L xs)).trans (by rw [KC_414]; rfl)
set_option maxRecDepth 20000 in
theorem LN_415 (L : Nat) (xs : Nat → Int32) : (MC_415 L xs).1.length = 160 := by rw [KC_415]; rfl
def RC_415 : Nat → Nat → Option Nat := g_row RC_414 159 (fun _ => none)
theorem RR_415 (L : Nat) (xs : Nat → Int32) : (MC_415 L xs).2.2.2 = RC_415 := nw_R (LN_414 L xs) (RR_414 L xs)
def IC_415 : Nat → Nat → Int32 := g_row IC_414 159 (fun _ => 0)
theorem II_415 (L : Nat) (xs : Nat → Int32) : ∀ i, i ≠ 0 → (MC_415 L xs).2.1 i = IC_415 i := nw_I (LN_414 L xs) (II_414 L xs)
theorem LL_415 (L : Nat) (xs : Nat → Int32) : ∀ i k, (MC_415 L xs).2.2.1 i k = 0 := nw_L (LL_414 L xs)
def MC_416 (L : Nat) (xs : Nat → Int32) : gM := mR (MC_415 L xs) 158 0 (some 159)
set_option maxRecDepth 20000 in
theorem ST_416 (L : Nat) (xs : Nat → Int32) : pR 8 (MC_415 L xs) (some 158) 0 (some 159) = some (MC_416 L xs) := pR_of (by unfold g_k; rw [KC_415]; rfl)
theorem KC_416 (L : Nat) (xs : Nat → Int32) : (MC_416 L xs).1 = (g_K0 L).take 160 := (mR_K (MC_415 L xs) _ _ _).trans (KC_415 L xs)
set_option maxRecDepth 20000 in
theorem LN_416 (L : Nat) (xs : Nat → Int32) : (MC_416 L xs).1.length = 160 := by rw [KC_416]; rfl
def RC_416 : Nat → Nat → Option Nat := g_up RC_415 158 0 (some 159)
theorem RR_416 (L : Nat) (xs : Nat → Int32) : (MC_416 L xs).2.2.2 = RC_416 := mR_Rr (RR_415 L xs)
theorem II_416 (L : Nat) (xs : Nat → Int32) : ∀ i, i ≠ 0 → (MC_416 L xs).2.1 i = IC_415 i := mR_In (II_415 L xs)
theorem LL_416 (L : Nat) (xs : Nat → Int32) : ∀ i k, (MC_416 L xs).2.2.1 i k = 0 := mR_Ln (LL_415 L xs)
def MC_417 (L : Nat) (xs : Nat → Int32) : gM := nw (20, 49) (MC_416 L xs)
theorem NW_417 (L : Nat) (xs : Nat → Int32) : nw (20, 49) (MC_416 L xs) = MC_417 L xs := rfl
set_option maxRecDepth 20000 in
theorem KC_417 (L : Nat) (xs : Nat → Int32) : (MC_417 L xs).1 = (g_K0 L).take 161 := (nw_K _ (MC_416 L xs)).trans (by rw [KC_416]; rfl)
set_option maxRecDepth 20000 in
theorem LN_417 (L : Nat) (xs : Nat → Int32) : (MC_417 L xs).1.length = 161 := by rw [KC_417]; rfl
def RC_417 : Nat → Nat → Option Nat := g_row RC_416 160 (fun _ => none)
theorem RR_417 (L : Nat) (xs : Nat → Int32) : (MC_417 L xs).2.2.2 = RC_417 := nw_R (LN_416 L xs) (RR_416 L xs)
def IC_417 : Nat → Nat → Int32 := g_row IC_415 160 (fun _ => 0)
theorem II_417 (L : Nat) (xs : Nat → Int32) : ∀ i, i ≠ 0 → (MC_417 L xs).2.1 i = IC_417 i := nw_I (LN_416 L xs) (II_416 L xs)
theorem LL_417 (L : Nat) (xs : Nat → Int32) : ∀ i k, (MC_417 L xs).2.2.1 i k = 0 := nw_L (LL_416 L xs)
def MC_418 (L : Nat) (xs : Nat → Int32) : gM := mR (MC_417 L xs) 158 1 (some 160)
set_option maxRecDepth 20000 in
theorem ST_418 (L : Nat) (xs : Nat → Int32) : pR 8 (MC_417 L xs) (some 158) 1 (some 160) = some (MC_418 L xs) := pR_of (by unfold g_k; rw [KC_417]; rfl)
theorem KC_418 (L : Nat) (xs : Nat → Int32) : (MC_418 L xs).1 = (g_K0 L).take 161 := (mR_K (MC_417 L xs) _ _ _).trans (KC_417 L xs)
set_option maxRecDepth 20000 in
theorem LN_418 (L : Nat) (xs : Nat → Int32) : (MC_418 L xs).1.length = 161 := by rw [KC_418]; rfl
def RC_418 : Nat → Nat → Option Nat := g_up RC_417 158 1 (some 160)
theorem RR_418 (L : Nat) (xs : Nat → Int32) : (MC_418 L xs).2.2.2 = RC_418 := mR_Rr (RR_417 L xs)
theorem II_418 (L : Nat) (xs : Nat → Int32) : ∀ i, i ≠ 0 → (MC_418 L xs).2.1 i = IC_417 i := mR_In (II_417 L xs)
theorem LL_418 (L : Nat) (xs : Nat → Int32) : ∀ i k, (MC_418 L xs).2.2.1 i k = 0 := mR_Ln (LL_417 L xs)
def MC_419 (L : Nat) (xs : Nat → Int32) : gM := nw (20, 7) (MC_418 L xs)
theorem NW_419 (L : Nat) (xs : Nat → Int32) : nw (20, 7) (MC_418 L xs) = MC_419 L xs := rfl
set_option maxRecDepth 20000 in
theorem KC_419 (L : Nat) (xs : Nat → Int32) : (MC_419 L xs).1 = (g_K0 L).take 162 := (nw_K _ (MC_418 L xs)).trans (by rw [KC_418]; rfl)
set_option maxRecDepth 20000 in
theorem LN_419 (L : Nat) (xs : Nat → Int32) : (MC_419 L xs).1.length = 162 := by rw [KC_419]; rfl
def RC_419 : Nat → Nat → Option Nat := g_row RC_418 161 (fun _ => none)
theorem RR_419 (L : Nat) (xs : Nat → Int32) : (MC_419 L xs).2.2.2 = RC_419 := nw_R (LN_418 L xs) (RR_418 L xs)
def IC_419 : Nat → Nat → Int32 := g_row IC_417 161 (fun _ => 0)
theorem II_419 (L : Nat) (xs : Nat → Int32) : ∀ i, i ≠ 0 → (MC_419 L xs).2.1 i = IC_419 i := nw_I (LN_418 L xs) (II_418 L xs)
theorem LL_419 (L : Nat) (xs : Nat → Int32) : ∀ i k, (MC_419 L xs).2.2.1 i k = 0 := nw_L (LL_418 L xs)
def MC_420 (L : Nat) (xs : Nat → Int32) : gM := mR (MC_419 L xs) 158 2 (some 161)
set_option maxRecDepth 20000 in
theorem ST_420 (L : Nat) (xs : Nat → Int32) : pR 8 (MC_419 L xs) (some 158) 2 (some 161) = some (MC_420 L xs) := pR_of (by unfold g_k; rw [KC_419]; rfl)
theorem KC_420 (L : Nat) (xs : Nat → Int32) : (MC_420 L xs).1 = (g_K0 L).take 162 := (mR_K (MC_419 L xs) _ _ _).trans (KC_419 L xs)
set_option maxRecDepth 20000 in
theorem LN_420 (L : Nat) (xs : Nat → Int32) : (MC_420 L xs).1.length = 162 := by rw [KC_420]; rfl
def RC_420 : Nat → Nat → Option Nat := g_up RC_419 158 2 (some 161)
theorem RR_420 (L : Nat) (xs : Nat → Int32) : (MC_420 L xs).2.2.2 = RC_420 := mR_Rr (RR_419 L xs)
theorem II_420 (L : Nat) (xs : Nat → Int32) : ∀ i, i ≠ 0 → (MC_420 L xs).2.1 i = IC_419 i := mR_In (II_419 L xs)
theorem LL_420 (L : Nat) (xs : Nat → Int32) : ∀ i k, (MC_420 L xs).2.2.1 i k = 0 := mR_Ln (LL_419 L xs)
def MC_421 (L : Nat) (xs : Nat → Int32) : gM := nw (20, 7) (MC_420 L xs)
theorem NW_421 (L : Nat) (xs : Nat → Int32) : nw (20, 7) (MC_420 L xs) = MC_421 L xs := rfl
set_option maxRecDepth 20000 in
theorem KC_421 (L : Nat) (xs : Nat → Int32) : (MC_421 L xs).1 = (g_K0 L).take 163 := (nw_K _ (MC_420 L xs)).trans (by rw [KC_420]; rfl)
set_option maxRecDepth 20000 in
theorem LN_421 (L : Nat) (xs : Nat → Int32) : (MC_421 L xs).1.length = 163 := by rw [KC_421]; rfl
def RC_421 : Nat → Nat → Option Nat := g_row RC_420 162 (fun _ => none)
theorem RR_421 (L : Nat) (xs : Nat → Int32) : (MC_421 L xs).2.2.2 = RC_421 := nw_R (LN_420 L xs) (RR_420 L xs)
def IC_421 : Nat → Nat → Int32 := g_row IC_419 162 (fun _ => 0)
theorem II_421 (L : Nat) (xs : Nat → Int32) : ∀ i, i ≠ 0 → (MC_421 L xs).2.1 i = IC_421 i := nw_I (LN_420 L xs) (II_420 L xs)
theorem LL_421 (L : Nat) (xs : Nat → Int32) : ∀ i k, (MC_421 L xs).2.2.1 i k = 0 := nw_L (LL_420 L xs)
def MC_422 (L : Nat) (xs : Nat → Int32) : gM := mR (MC_421 L xs) 158 3 (some 162)
set_option maxRecDepth 20000 in
theorem ST_422 (L : Nat) (xs : Nat → Int32) : pR 8 (MC_421 L xs) (some 158) 3 (some 162) = some (MC_422 L xs) := pR_of (by unfold g_k; rw [KC_421]; rfl)
theorem KC_422 (L : Nat) (xs : Nat → Int32) : (MC_422 L xs).1 = (g_K0 L).take 163 := (mR_K (MC_421 L xs) _ _ _).trans (KC_421 L xs)
set_option maxRecDepth 20000 in
theorem LN_422 (L : Nat) (xs : Nat → Int32) : (MC_422 L xs).1.length = 163 := by rw [KC_422]; rfl
def RC_422 : Nat → Nat → Option Nat := g_up RC_421 158 3 (some 162)
theorem RR_422 (L : Nat) (xs : Nat → Int32) : (MC_422 L xs).2.2.2 = RC_422 := mR_Rr (RR_421 L xs)
theorem II_422 (L : Nat) (xs : Nat → Int32) : ∀ i, i ≠ 0 → (MC_422 L xs).2.1 i = IC_421 i := mR_In (II_421 L xs)
theorem LL_422 (L : Nat) (xs : Nat → Int32) : ∀ i k, (MC_422 L xs).2.2.1 i k = 0 := mR_Ln (LL_421 L xs)
def MC_423 (L : Nat) (xs : Nat → Int32) : gM := mI (MC_422 L xs) 158 4 (0 : Int32)
set_option maxRecDepth 20000 in
theorem ST_423 (L : Nat) (xs : Nat → Int32) : pI 8 (MC_422 L xs) (some 158) 4 (0 : Int32) = some (MC_423 L xs) := pI_of (by unfold g_k; rw [KC_422]; rfl)
theorem KC_423 (L : Nat) (xs : Nat → Int32) : (MC_423 L xs).1 = (g_K0 L).take 163 := (mI_K (MC_422 L xs) _ _ _).trans (KC_422 L xs)
set_option maxRecDepth 20000 in
theorem LN_423 (L : Nat) (xs : Nat → Int32) : (MC_423 L xs).1.length = 163 := by rw [KC_423]; rfl
theorem RR_423 (L : Nat) (xs : Nat → Int32) : (MC_423 L xs).2.2.2 = RC_422 := (mI_Rn (MC_422 L xs) _ _ _).trans (RR_422 L xs)
def IC_423 : Nat → Nat → Int32 := g_up IC_421 158 4 (0)
theorem II_423 (L : Nat) (xs : Nat → Int32) : ∀ i, i ≠ 0 → (MC_423 L xs).2.1 i = IC_423 i := mI_I (II_422 L xs)
theorem LL_423 (L : Nat) (xs : Nat → Int32) : ∀ i k, (MC_423 L xs).2.2.1 i k = 0 := mI_Ln (LL_422 L xs)
def MC_424 (L : Nat) (xs : Nat → Int32) : gM := mI (MC_423 L xs) 158 5 (0 : Int32)
set_option maxRecDepth 20000 in
theorem ST_424 (L : Nat) (xs : Nat → Int32) : pI 8 (MC_423 L xs) (some 158) 5 (0 : Int32) = some (MC_424 L xs) := pI_of (by unfold g_k; rw [KC_423]; rfl)
theorem KC_424 (L : Nat) (xs : Nat → Int32) : (MC_424 L xs).1 = (g_K0 L).take 163 := (mI_K (MC_423 L xs) _ _ _).trans (KC_423 L xs)
set_option maxRecDepth 20000 in
theorem LN_424 (L : Nat) (xs : Nat → Int32) : (MC_424 L xs).1.length = 163 := by rw [KC_424]; rfl
theorem RR_424 (L : Nat) (xs : Nat → Int32) : (MC_424 L xs).2.2.2 = RC_422 := (mI_Rn (MC_423 L xs) _ _ _).trans (RR_423 L xs)
def IC_424 : Nat → Nat → Int32 := g_up IC_423 158 5 (0)
theorem II_424 (L : Nat) (xs : Nat → Int32) : ∀ i, i ≠ 0 → (MC_424 L xs).2.1 i = IC_424 i := mI_I (II_423 L xs)
theorem LL_424 (L : Nat) (xs : Nat → Int32) : ∀ i k, (MC_424 L xs).2.2.1 i k = 0 := mI_Ln (LL_423 L xs)
def MC_425 (L : Nat) (xs : Nat → Int32) : gM := mI (MC_424 L xs) 158 6 (0 : Int32)
set_option maxRecDepth 20000 in
theorem ST_425 (L : Nat) (xs : Nat → Int32) : pI 8 (MC_424 L xs) (some 158) 6 (0 : Int32) = some (MC_425 L xs) := pI_of (by unfold g_k; rw [KC_424]; rfl)
theorem KC_425 (L : Nat) (xs : Nat → Int32) : (MC_425 L xs).1 = (g_K0 L).take 163 := (mI_K (MC_424 L xs) _ _ _).trans (KC_424 L xs)
set_option maxRecDepth 20000 in
theorem LN_425 (L : Nat) (xs : Nat → Int32) : (MC_425 L xs).1.length = 163 := by rw [KC_425]; rfl
theorem RR_425 (L : Nat) (xs : Nat → Int32) : (MC_425 L xs).2.2.2 = RC_422 := (mI_Rn (MC_424 L xs) _ _ _).trans (RR_424 L xs)
def IC_425 : Nat → Nat → Int32 := g_up IC_424 158 6 (0)
theorem II_425 (L : Nat) (xs : Nat → Int32) : ∀ i, i ≠ 0 → (MC_425 L xs).2.1 i = IC_425 i := mI_I (II_424 L xs)
theorem LL_425 (L : Nat) (xs : Nat → Int32) : ∀ i k, (MC_425 L xs).2.2.1 i k = 0 := mI_Ln (LL_424 L xs)
def MC_426 (L : Nat) (xs : Nat → Int32) : gM := mR (MC_425 L xs) 157 0 (some 158)
set_option maxRecDepth 20000 in
theorem ST_426 (L : Nat) (xs : Nat → Int32) : pR 3 (MC_425 L xs) (some 157) 0 (some 158) = some (MC_426 L xs) := pR_of (by unfold g_k; rw [KC_425]; rfl)
theorem KC_426 (L : Nat) (xs : Nat → Int32) : (MC_426 L xs).1 = (g_K0 L).take 163 := (mR_K (MC_425 L xs) _ _ _).trans (KC_425 L xs)
set_option maxRecDepth 20000 in
theorem LN_426 (L : Nat) (xs : Nat → Int32) : (MC_426 L xs).1.length = 163 := by rw [KC_426]; rfl
def RC_426 : Nat → Nat → Option Nat := g_up RC_422 157 0 (some 158)
theorem RR_426 (L : Nat) (xs : Nat → Int32) : (MC_426 L xs).2.2.2 = RC_426 := mR_Rr (RR_425 L xs)
theorem II_426 (L : Nat) (xs : Nat → Int32) : ∀ i, i ≠ 0 → (MC_426 L xs).2.1 i = IC_425 i := mR_In (II_425 L xs)
theorem LL_426 (L : Nat) (xs : Nat → Int32) : ∀ i k, (MC_426 L xs).2.2.1 i k = 0 := mR_Ln (LL_425 L xs)
def MC_427 (L : Nat) (xs : Nat → Int32) : gM := mR (MC_426 L xs) 157 1 none
set_option maxRecDepth 20000 in
theorem ST_427 (L : Nat) (xs : Nat → Int32) : pR 3 (MC_426 L xs) (some 157) 1 none = some (MC_427 L xs) := pR_of (by unfold g_k; rw [KC_426]; rfl)
theorem KC_427 (L : Nat) (xs : Nat → Int32) : (MC_427 L xs).1 = (g_K0 L).take 163 := (mR_K (MC_426 L xs) _ _ _).trans (KC_426 L xs)
set_option maxRecDepth 20000 in
theorem LN_427 (L : Nat) (xs : Nat → Int32) : (MC_427 L xs).1.length = 163 := by rw [KC_427]; rfl
def RC_427 : Nat → Nat → Option Nat := g_up RC_426 157 1 none
theorem RR_427 (L : Nat) (xs : Nat → Int32) : (MC_427 L xs).2.2.2 = RC_427 := mR_Rr (RR_426 L xs)
theorem II_427 (L : Nat) (xs : Nat → Int32) : ∀ i, i ≠ 0 → (MC_427 L xs).2.1 i = IC_425 i := mR_In (II_426 L xs)
theorem LL_427 (L : Nat) (xs : Nat → Int32) : ∀ i k, (MC_427 L xs).2.2.1 i k = 0 := mR_Ln (LL_426 L xs)
def MC_428 (L : Nat) (xs : Nat → Int32) : gM := mI (MC_427 L xs) 157 2 (-1 : Int32)
set_option maxRecDepth 20000 in
theorem ST_428 (L : Nat) (xs : Nat → Int32) : pI 3 (MC_427 L xs) (some 157) 2 (-1 : Int32) = some (MC_428 L xs) := pI_of (by unfold g_k; rw [KC_427]; rfl)
theorem KC_428 (L : Nat) (xs : Nat → Int32) : (MC_428 L xs).1 = (g_K0 L).take 163 := (mI_K (MC_427 L xs) _ _ _).trans (KC_427 L xs)
set_option maxRecDepth 20000 in
theorem LN_428 (L : Nat) (xs : Nat → Int32) : (MC_428 L xs).1.length = 163 := by rw [KC_428]; rfl
theorem RR_428 (L : Nat) (xs : Nat → Int32) : (MC_428 L xs).2.2.2 = RC_427 := (mI_Rn (MC_427 L xs) _ _ _).trans (RR_427 L xs)
def IC_428 : Nat → Nat → Int32 := g_up IC_425 157 2 (-1)
theorem II_428 (L : Nat) (xs : Nat → Int32) : ∀ i, i ≠ 0 → (MC_428 L xs).2.1 i = IC_428 i := mI_I (II_427 L xs)
theorem LL_428 (L : Nat) (xs : Nat → Int32) : ∀ i k, (MC_428 L xs).2.2.1 i k = 0 := mI_Ln (LL_427 L xs)
def MC_429 (L : Nat) (xs : Nat → Int32) : gM := mI (MC_428 L xs) 157 3 (0 : Int32)
set_option maxRecDepth 20000 in
theorem ST_429 (L : Nat) (xs : Nat → Int32) : pI 3 (MC_428 L xs) (some 157) 3 (0 : Int32) = some (MC_429 L xs) := pI_of (by unfold g_k; rw [KC_428]; rfl)
theorem KC_429 (L : Nat) (xs : Nat → Int32) : (MC_429 L xs).1 = (g_K0 L).take 163 := (mI_K (MC_428 L xs) _ _ _).trans (KC_428 L xs)
set_option maxRecDepth 20000 in
theorem LN_429 (L : Nat) (xs : Nat → Int32) : (MC_429 L xs).1.length = 163 := by rw [KC_429]; rfl
theorem RR_429 (L : Nat) (xs : Nat → Int32) : (MC_429 L xs).2.2.2 = RC_427 := (mI_Rn (MC_428 L xs) _ _ _).trans (RR_428 L xs)
def IC_429 : Nat → Nat → Int32 := g_up IC_428 157 3 (0)
theorem II_429 (L : Nat) (xs : Nat → Int32) : ∀ i, i ≠ 0 → (MC_429 L xs).2.1 i = IC_429 i := mI_I (II_428 L xs)
theorem LL_429 (L : Nat) (xs : Nat → Int32) : ∀ i k, (MC_429 L xs).2.2.1 i k = 0 := mI_Ln (LL_428 L xs)
def MC_430 (L : Nat) (xs : Nat → Int32) : gM := mR (MC_429 L xs) 121 1 (some 157)
set_option maxRecDepth 20000 in
theorem ST_430 (L : Nat) (xs : Nat → Int32) : sR 26 (MC_429 L xs) (some 121) (1 : Int32) (some 157) = some (MC_430 L xs) := sR_of (n := 4) (by unfold g_k; rw [KC_429]; rfl) (by unfold g_k; rw [KC_429]; rfl) (by decide) (by decide)
theorem KC_430 (L : Nat) (xs : Nat → Int32) : (MC_430 L xs).1 = (g_K0 L).take 163 := (mR_K (MC_429 L xs) _ _ _).trans (KC_429 L xs)
set_option maxRecDepth 20000 in
theorem LN_430 (L : Nat) (xs : Nat → Int32) : (MC_430 L xs).1.length = 163 := by rw [KC_430]; rfl
def RC_430 : Nat → Nat → Option Nat := g_up RC_427 121 1 (some 157)
theorem RR_430 (L : Nat) (xs : Nat → Int32) : (MC_430 L xs).2.2.2 = RC_430 := mR_Rr (RR_429 L xs)
theorem II_430 (L : Nat) (xs : Nat → Int32) : ∀ i, i ≠ 0 → (MC_430 L xs).2.1 i = IC_429 i := mR_In (II_429 L xs)
theorem LL_430 (L : Nat) (xs : Nat → Int32) : ∀ i k, (MC_430 L xs).2.2.1 i k = 0 := mR_Ln (LL_429 L xs)
set_option maxRecDepth 20000 in
theorem GR_23 (L : Nat) (xs : Nat → Int32) : gR 11 (MC_430 L xs) (some 2) 8 = some (some 121) := gR_of (by unfold g_k; rw [KC_430]; rfl) (by rw [RR_430]; decide +kernel)
def MC_431 (L : Nat) (xs : Nat → Int32) : gM := nw (3, 0) (MC_430 L xs)
theorem NW_431 (L : Nat) (xs : Nat → Int32) : nw (3, 0) (MC_430 L xs) = MC_431 L xs := rfl
set_option maxRecDepth 20000 in
theorem KC_431 (L : Nat) (xs : Nat → Int32) : (MC_431 L xs).1 = (g_K0 L).take 164 := (nw_K _ (MC_430 L xs)).trans (by rw [KC_430]; rfl)
set_option maxRecDepth 20000 in
theorem LN_431 (L : Nat) (xs : Nat → Int32) : (MC_431 L xs).1.length = 164 := by rw [KC_431]; rfl
def RC_431 : Nat → Nat → Option Nat := g_row RC_430 163 (fun _ => none)
theorem RR_431 (L : Nat) (xs : Nat → Int32) : (MC_431 L xs).2.2.2 = RC_431 := nw_R (LN_430 L xs) (RR_430 L xs)
def IC_431 : Nat → Nat → Int32 := g_row IC_429 163 (fun _ => 0)
theorem II_431 (L : Nat) (xs : Nat → Int32) : ∀ i, i ≠ 0 → (MC_431 L xs).2.1 i = IC_431 i := nw_I (LN_430 L xs) (II_430 L xs)
theorem LL_431 (L : Nat) (xs : Nat → Int32) : ∀ i k, (MC_431 L xs).2.2.1 i k = 0 := nw_L (LL_430 L xs)
def MC_432 (L : Nat) (xs : Nat → Int32) : gM := nw (8, 0) (MC_431 L xs)
theorem NW_432 (L : Nat) (xs : Nat → Int32) : nw (8, 0) (MC_431 L xs) = MC_432 L xs := rfl
set_option maxRecDepth 20000 in
theorem KC_432 (L : Nat) (xs : Nat → Int32) : (MC_432 L xs).1 = (g_K0 L).take 165 := (nw_K _ (MC_431 L xs)).trans (by rw [KC_431]; rfl)
set_option maxRecDepth 20000 in
theorem LN_432 (L : Nat) (xs : Nat → Int32) : (MC_432 L xs).1.length = 165 := by rw [KC_432]; rfl
def RC_432 : Nat → Nat → Option Nat := g_row RC_431 164 (fun _ => none)
theorem RR_432 (L : Nat) (xs : Nat → Int32) : (MC_432 L xs).2.2.2 = RC_432 := nw_R (LN_431 L xs) (RR_431 L xs)
def IC_432 : Nat → Nat → Int32 := g_row IC_431 164 (fun _ => 0)
theorem II_432 (L : Nat) (xs : Nat → Int32) : ∀ i, i ≠ 0 → (MC_432 L xs).2.1 i = IC_432 i := nw_I (LN_431 L xs) (II_431 L xs)
theorem LL_432 (L : Nat) (xs : Nat → Int32) : ∀ i k, (MC_432 L xs).2.2.1 i k = 0 := nw_L (LL_431 L xs)
def MC_433 (L : Nat) (xs : Nat → Int32) : gM := nw (20, 49) (MC_432 L xs)
theorem NW_433 (L : Nat) (xs : Nat → Int32) : nw (20, 49) (MC_432 L xs) = MC_433 L xs := rfl
set_option maxRecDepth 20000 in
theorem KC_433 (L : Nat) (xs : Nat → Int32) : (MC_433 L xs).1 = (g_K0 L).take 166 := (nw_K _ (MC_432 L xs)).trans (by rw [KC_432]; rfl)
set_option maxRecDepth 20000 in
theorem LN_433 (L : Nat) (xs : Nat → Int32) : (MC_433 L xs).1.length = 166 := by rw [KC_433]; rfl
def RC_433 : Nat → Nat → Option Nat := g_row RC_432 165 (fun _ => none)
theorem RR_433 (L : Nat) (xs : Nat → Int32) : (MC_433 L xs).2.2.2 = RC_433 := nw_R (LN_432 L xs) (RR_432 L xs)
def IC_433 : Nat → Nat → Int32 := g_row IC_432 165 (fun _ => 0)
theorem II_433 (L : Nat) (xs : Nat → Int32) : ∀ i, i ≠ 0 → (MC_433 L xs).2.1 i = IC_433 i := nw_I (LN_432 L xs) (II_432 L xs)
theorem LL_433 (L : Nat) (xs : Nat → Int32) : ∀ i k, (MC_433 L xs).2.2.1 i k = 0 := nw_L (LL_432 L xs)
def MC_434 (L : Nat) (xs : Nat → Int32) : gM := mR (MC_433 L xs) 164 0 (some 165)
set_option maxRecDepth 20000 in
theorem ST_434 (L : Nat) (xs : Nat → Int32) : pR 8 (MC_433 L xs) (some 164) 0 (some 165) = some (MC_434 L xs) := pR_of (by unfold g_k; rw [KC_433]; rfl)
theorem KC_434 (L : Nat) (xs : Nat → Int32) : (MC_434 L xs).1 = (g_K0 L).take 166 := (mR_K (MC_433 L xs) _ _ _).trans (KC_433 L xs)
set_option maxRecDepth 20000 in
theorem LN_434 (L : Nat) (xs : Nat → Int32) : (MC_434 L xs).1.length = 166 := by rw [KC_434]; rfl
def RC_434 : Nat → Nat → Option Nat := g_up RC_433 164 0 (some 165)
theorem RR_434 (L : Nat) (xs : Nat → Int32) : (MC_434 L xs).2.2.2 = RC_434 := mR_Rr (RR_433 L xs)
theorem II_434 (L : Nat) (xs : Nat → Int32) : ∀ i, i ≠ 0 → (MC_434 L xs).2.1 i = IC_433 i := mR_In (II_433 L xs)
theorem LL_434 (L : Nat) (xs : Nat → Int32) : ∀ i k, (MC_434 L xs).2.2.1 i k = 0 := mR_Ln (LL_433 L xs)
def MC_435 (L : Nat) (xs : Nat → Int32) : gM := nw (20, 49) (MC_434 L xs)
theorem NW_435 (L : Nat) (xs : Nat → Int32) : nw (20, 49) (MC_434 L xs) = MC_435 L xs := rfl
set_option maxRecDepth 20000 in
theorem KC_435 (L : Nat) (xs : Nat → Int32) : (MC_435 L xs).1 = (g_K0 L).take 167 := (nw_K _ (MC_434 L xs)).trans (by rw [KC_434]; rfl)
set_option maxRecDepth 20000 in
theorem LN_435 (L : Nat) (xs : Nat → Int32) : (MC_435 L xs).1.length = 167 := by rw [KC_435]; rfl
def RC_435 : Nat → Nat → Option Nat := g_row RC_434 166 (fun _ => none)
theorem RR_435 (L : Nat) (xs : Nat → Int32) : (MC_435 L xs).2.2.2 = RC_435 := nw_R (LN_434 L xs) (RR_434 L xs)
def IC_435 : Nat → Nat → Int32 := g_row IC_433 166 (fun _ => 0)
theorem II_435 (L : Nat) (xs : Nat → Int32) : ∀ i, i ≠ 0 → (MC_435 L xs).2.1 i = IC_435 i := nw_I (LN_434 L xs) (II_434 L xs)
theorem LL_435 (L : Nat) (xs : Nat → Int32) : ∀ i k, (MC_435 L xs).2.2.1 i k = 0 := nw_L (LL_434 L xs)
def MC_436 (L : Nat) (xs : Nat → Int32) : gM := mR (MC_435 L xs) 164 1 (some 166)
set_option maxRecDepth 20000 in
theorem ST_436 (L : Nat) (xs : Nat → Int32) : pR 8 (MC_435 L xs) (some 164) 1 (some 166) = some (MC_436 L xs) := pR_of (by unfold g_k; rw [KC_435]; rfl)
theorem KC_436 (L : Nat) (xs : Nat → Int32) : (MC_436 L xs).1 = (g_K0 L).take 167 := (mR_K (MC_435 L xs) _ _ _).trans (KC_435 L xs)
set_option maxRecDepth 20000 in
theorem LN_436 (L : Nat) (xs : Nat → Int32) : (MC_436 L xs).1.length = 167 := by rw [KC_436]; rfl
def RC_436 : Nat → Nat → Option Nat := g_up RC_435 164 1 (some 166)
theorem RR_436 (L : Nat) (xs : Nat → Int32) : (MC_436 L xs).2.2.2 = RC_436 := mR_Rr (RR_435 L xs)
theorem II_436 (L : Nat) (xs : Nat → Int32) : ∀ i, i ≠ 0 → (MC_436 L xs).2.1 i = IC_435 i := mR_In (II_435 L xs)
theorem LL_436 (L : Nat) (xs : Nat → Int32) : ∀ i k, (MC_436 L xs).2.2.1 i k = 0 := mR_Ln (LL_435 L xs)
def MC_437 (L : Nat) (xs : Nat → Int32) : gM := nw (20, 7) (MC_436 L xs)
theorem NW_437 (L : Nat) (xs : Nat → Int32) : nw (20, 7) (MC_436 L xs) = MC_437 L xs := rfl
set_option maxRecDepth 20000 in
theorem KC_437 (L : Nat) (xs : Nat → Int32) : (MC_437 L xs).1 = (g_K0 L).take 168 := (nw_K _ (MC_436 L xs)).trans (by rw [KC_436]; rfl)
set_option maxRecDepth 20000 in
theorem LN_437 (L : Nat) (xs : Nat → Int32) : (MC_437 L xs).1.length = 168 := by rw [KC_437]; rfl
def RC_437 : Nat → Nat → Option Nat := g_row RC_436 167 (fun _ => none)
theorem RR_437 (L : Nat) (xs : Nat → Int32) : (MC_437 L xs).2.2.2 = RC_437 := nw_R (LN_436 L xs) (RR_436 L xs)
def IC_437 : Nat → Nat → Int32 := g_row IC_435 167 (fun _ => 0)
theorem II_437 (L : Nat) (xs : Nat → Int32) : ∀ i, i ≠ 0 → (MC_437 L xs).2.1 i = IC_437 i := nw_I (LN_436 L xs) (II_436 L xs)
theorem LL_437 (L : Nat) (xs : Nat → Int32) : ∀ i k, (MC_437 L xs).2.2.1 i k = 0 := nw_L (LL_436 L xs)
def MC_438 (L : Nat) (xs : Nat → Int32) : gM := mR (MC_437 L xs) 164 2 (some 167)
set_option maxRecDepth 20000 in
theorem ST_438 (L : Nat) (xs : Nat → Int32) : pR 8 (MC_437 L xs) (some 164) 2 (some 167) = some (MC_438 L xs) := pR_of (by unfold g_k; rw [KC_437]; rfl)
theorem KC_438 (L : Nat) (xs : Nat → Int32) : (MC_438 L xs).1 = (g_K0 L).take 168 := (mR_K (MC_437 L xs) _ _ _).trans (KC_437 L xs)
set_option maxRecDepth 20000 in
theorem LN_438 (L : Nat) (xs : Nat → Int32) : (MC_438 L xs).1.length = 168 := by rw [KC_438]; rfl
def RC_438 : Nat → Nat → Option Nat := g_up RC_437 164 2 (some 167)
theorem RR_438 (L : Nat) (xs : Nat → Int32) : (MC_438 L xs).2.2.2 = RC_438 := mR_Rr (RR_437 L xs)
theorem II_438 (L : Nat) (xs : Nat → Int32) : ∀ i, i ≠ 0 → (MC_438 L xs).2.1 i = IC_437 i := mR_In (II_437 L xs)
theorem LL_438 (L : Nat) (xs : Nat → Int32) : ∀ i k, (MC_438 L xs).2.2.1 i k = 0 := mR_Ln (LL_437 L xs)
def MC_439 (L : Nat) (xs : Nat → Int32) : gM := nw (20, 7) (MC_438 L xs)
theorem NW_439 (L : Nat) (xs : Nat → Int32) : nw (20, 7) (MC_438 L xs) = MC_439 L xs := rfl
set_option maxRecDepth 20000 in
theorem KC_439 (L : Nat) (xs : Nat → Int32) : (MC_439 L xs).1 = (g_K0 L).take 169 := (nw_K _ (MC_438 L xs)).trans (by rw [KC_438]; rfl)
set_option maxRecDepth 20000 in
theorem LN_439 (L : Nat) (xs : Nat → Int32) : (MC_439 L xs).1.length = 169 := by rw [KC_439]; rfl
def RC_439 : Nat → Nat → Option Nat := g_row RC_438 168 (fun _ => none)
theorem RR_439 (L : Nat) (xs : Nat → Int32) : (MC_439 L xs).2.2.2 = RC_439 := nw_R (LN_438 L xs) (RR_438 L xs)
def IC_439 : Nat → Nat → Int32 := g_row IC_437 168 (fun _ => 0)
theorem II_439 (L : Nat) (xs : Nat → Int32) : ∀ i, i ≠ 0 → (MC_439 L xs).2.1 i = IC_439 i := nw_I (LN_438 L xs) (II_438 L xs)
theorem LL_439 (L : Nat) (xs : Nat → Int32) : ∀ i k, (MC_439 L xs).2.2.1 i k = 0 := nw_L (LL_438 L xs)
def MC_440 (L : Nat) (xs : Nat → Int32) : gM := mR (MC_439 L xs) 164 3 (some 168)
set_option maxRecDepth 20000 in
theorem ST_440 (L : Nat) (xs : Nat → Int32) : pR 8 (MC_439 L xs) (some 164) 3 (some 168) = some (MC_440 L xs) := pR_of (by unfold g_k; rw [KC_439]; rfl)
theorem KC_440 (L : Nat) (xs : Nat → Int32) : (MC_440 L xs).1 = (g_K0 L).take 169 := (mR_K (MC_439 L xs) _ _ _).trans (KC_439 L xs)
set_option maxRecDepth 20000 in
theorem LN_440 (L : Nat) (xs : Nat → Int32) : (MC_440 L xs).1.length = 169 := by rw [KC_440]; rfl
def RC_440 : Nat → Nat → Option Nat := g_up RC_439 164 3 (some 168)
theorem RR_440 (L : Nat) (xs : Nat → Int32) : (MC_440 L xs).2.2.2 = RC_440 := mR_Rr (RR_439 L xs)
theorem II_440 (L : Nat) (xs : Nat → Int32) : ∀ i, i ≠ 0 → (MC_440 L xs).2.1 i = IC_439 i := mR_In (II_439 L xs)
theorem LL_440 (L : Nat) (xs : Nat → Int32) : ∀ i k, (MC_440 L xs).2.2.1 i k = 0 := mR_Ln (LL_439 L xs)
def MC_441 (L : Nat) (xs : Nat → Int32) : gM := mI (MC_440 L xs) 164 4 (0 : Int32)
set_option maxRecDepth 20000 in
theorem ST_441 (L : Nat) (xs : Nat → Int32) : pI 8 (MC_440 L xs) (some 164) 4 (0 : Int32) = some (MC_441 L xs) := pI_of (by unfold g_k; rw [KC_440]; rfl)
theorem KC_441 (L : Nat) (xs : Nat → Int32) : (MC_441 L xs).1 = (g_K0 L).take 169 := (mI_K (MC_440 L xs) _ _ _).trans (KC_440 L xs)
set_option maxRecDepth 20000 in
theorem LN_441 (L : Nat) (xs : Nat → Int32) : (MC_441 L xs).1.length = 169 := by rw [KC_441]; rfl
theorem RR_441 (L : Nat) (xs : Nat → Int32) : (MC_441 L xs).2.2.2 = RC_440 := (mI_Rn (MC_440 L xs) _ _ _).trans (RR_440 L xs)
def IC_441 : Nat → Nat → Int32 := g_up IC_439 164 4 (0)
theorem II_441 (L : Nat) (xs : Nat → Int32) : ∀ i, i ≠ 0 → (MC_441 L xs).2.1 i = IC_441 i := mI_I (II_440 L xs)
theorem LL_441 (L : Nat) (xs : Nat → Int32) : ∀ i k, (MC_441 L xs).2.2.1 i k = 0 := mI_Ln (LL_440 L xs)
def MC_442 (L : Nat) (xs : Nat → Int32) : gM := mI (MC_441 L xs) 164 5 (0 : Int32)
set_option maxRecDepth 20000 in
theorem ST_442 (L : Nat) (xs : Nat → Int32) : pI 8 (MC_441 L xs) (some 164) 5 (0 : Int32) = some (MC_442 L xs) := pI_of (by unfold g_k; rw [KC_441]; rfl)
theorem KC_442 (L : Nat) (xs : Nat → Int32) : (MC_442 L xs).1 = (g_K0 L).take 169 := (mI_K (MC_441 L xs) _ _ _).trans (KC_441 L xs)
set_option maxRecDepth 20000 in
theorem LN_442 (L : Nat) (xs : Nat → Int32) : (MC_442 L xs).1.length = 169 := by rw [KC_442]; rfl
theorem RR_442 (L : Nat) (xs : Nat → Int32) : (MC_442 L xs).2.2.2 = RC_440 := (mI_Rn (MC_441 L xs) _ _ _).trans (RR_441 L xs)
def IC_442 : Nat → Nat → Int32 := g_up IC_441 164 5 (0)
theorem II_442 (L : Nat) (xs : Nat → Int32) : ∀ i, i ≠ 0 → (MC_442 L xs).2.1 i = IC_442 i := mI_I (II_441 L xs)
theorem LL_442 (L : Nat) (xs : Nat → Int32) : ∀ i k, (MC_442 L xs).2.2.1 i k = 0 := mI_Ln (LL_441 L xs)
def MC_443 (L : Nat) (xs : Nat → Int32) : gM := mI (MC_442 L xs) 164 6 (0 : Int32)
set_option maxRecDepth 20000 in
theorem ST_443 (L : Nat) (xs : Nat → Int32) : pI 8 (MC_442 L xs) (some 164) 6 (0 : Int32) = some (MC_443 L xs) := pI_of (by unfold g_k; rw [KC_442]; rfl)
theorem KC_443 (L : Nat) (xs : Nat → Int32) : (MC_443 L xs).1 = (g_K0 L).take 169 := (mI_K (MC_442 L xs) _ _ _).trans (KC_442 L xs)
set_option maxRecDepth 20000 in
theorem LN_443 (L : Nat) (xs : Nat → Int32) : (MC_443 L xs).1.length = 169 := by rw [KC_443]; rfl
theorem RR_443 (L : Nat) (xs : Nat → Int32) : (MC_443 L xs).2.2.2 = RC_440 := (mI_Rn (MC_442 L xs) _ _ _).trans (RR_442 L xs)
def IC_443 : Nat → Nat → Int32 := g_up IC_442 164 6 (0)
theorem II_443 (L : Nat) (xs : Nat → Int32) : ∀ i, i ≠ 0 → (MC_443 L xs).2.1 i = IC_443 i := mI_I (II_442 L xs)
theorem LL_443 (L : Nat) (xs : Nat → Int32) : ∀ i k, (MC_443 L xs).2.2.1 i k = 0 := mI_Ln (LL_442 L xs)
def MC_444 (L : Nat) (xs : Nat → Int32) : gM := mR (MC_443 L xs) 163 0 (some 164)
set_option maxRecDepth 20000 in
theorem ST_444 (L : Nat) (xs : Nat → Int32) : pR 3 (MC_443 L xs) (some 163) 0 (some 164) = some (MC_444 L xs) := pR_of (by unfold g_k; rw [KC_443]; rfl)
theorem KC_444 (L : Nat) (xs : Nat → Int32) : (MC_444 L xs).1 = (g_K0 L).take 169 := (mR_K (MC_443 L xs) _ _ _).trans (KC_443 L xs)
set_option maxRecDepth 20000 in
theorem LN_444 (L : Nat) (xs : Nat → Int32) : (MC_444 L xs).1.length = 169 := by rw [KC_444]; rfl
def RC_444 : Nat → Nat → Option Nat := g_up RC_440 163 0 (some 164)
theorem RR_444 (L : Nat) (xs : Nat → Int32) : (MC_444 L xs).2.2.2 = RC_444 := mR_Rr (RR_443 L xs)
theorem II_444 (L : Nat) (xs : Nat → Int32) : ∀ i, i ≠ 0 → (MC_444 L xs).2.1 i = IC_443 i := mR_In (II_443 L xs)
theorem LL_444 (L : Nat) (xs : Nat → Int32) : ∀ i k, (MC_444 L xs).2.2.1 i k = 0 := mR_Ln (LL_443 L xs)
def MC_445 (L : Nat) (xs : Nat → Int32) : gM := mR (MC_444 L xs) 163 1 none
set_option maxRecDepth 20000 in
theorem ST_445 (L : Nat) (xs : Nat → Int32) : pR 3 (MC_444 L xs) (some 163) 1 none = some (MC_445 L xs) := pR_of (by unfold g_k; rw [KC_444]; rfl)
theorem KC_445 (L : Nat) (xs : Nat → Int32) : (MC_445 L xs).1 = (g_K0 L).take 169 := (mR_K (MC_444 L xs) _ _ _).trans (KC_444 L xs)
set_option maxRecDepth 20000 in
theorem LN_445 (L : Nat) (xs : Nat → Int32) : (MC_445 L xs).1.length = 169 := by rw [KC_445]; rfl
def RC_445 : Nat → Nat → Option Nat := g_up RC_444 163 1 none
theorem RR_445 (L : Nat) (xs : Nat → Int32) : (MC_445 L xs).2.2.2 = RC_445 := mR_Rr (RR_444 L xs)
theorem II_445 (L : Nat) (xs : Nat → Int32) : ∀ i, i ≠ 0 → (MC_445 L xs).2.1 i = IC_443 i := mR_In (II_444 L xs)
theorem LL_445 (L : Nat) (xs : Nat → Int32) : ∀ i k, (MC_445 L xs).2.2.1 i k = 0 := mR_Ln (LL_444 L xs)
def MC_446 (L : Nat) (xs : Nat → Int32) : gM := mI (MC_445 L xs) 163 2 (-1 : Int32)
set_option maxRecDepth 20000 in
theorem ST_446 (L : Nat) (xs : Nat → Int32) : pI 3 (MC_445 L xs) (some 163) 2 (-1 : Int32) = some (MC_446 L xs) := pI_of (by unfold g_k; rw [KC_445]; rfl)
theorem KC_446 (L : Nat) (xs : Nat → Int32) : (MC_446 L xs).1 = (g_K0 L).take 169 := (mI_K (MC_445 L xs) _ _ _).trans (KC_445 L xs)
set_option maxRecDepth 20000 in
theorem LN_446 (L : Nat) (xs : Nat → Int32) : (MC_446 L xs).1.length = 169 := by rw [KC_446]; rfl
theorem RR_446 (L : Nat) (xs : Nat → Int32) : (MC_446 L xs).2.2.2 = RC_445 := (mI_Rn (MC_445 L xs) _ _ _).trans (RR_445 L xs)
def IC_446 : Nat → Nat → Int32 := g_up IC_443 163 2 (-1)
theorem II_446 (L : Nat) (xs : Nat → Int32) : ∀ i, i ≠ 0 → (MC_446 L xs).2.1 i = IC_446 i := mI_I (II_445 L xs)
theorem LL_446 (L : Nat) (xs : Nat → Int32) : ∀ i k, (MC_446 L xs).2.2.1 i k = 0 := mI_Ln (LL_445 L xs)
def MC_447 (L : Nat) (xs : Nat → Int32) : gM := mI (MC_446 L xs) 163 3 (0 : Int32)
set_option maxRecDepth 20000 in
theorem ST_447 (L : Nat) (xs : Nat → Int32) : pI 3 (MC_446 L xs) (some 163) 3 (0 : Int32) = some (MC_447 L xs) := pI_of (by unfold g_k; rw [KC_446]; rfl)
theorem KC_447 (L : Nat) (xs : Nat → Int32) : (MC_447 L xs).1 = (g_K0 L).take 169 := (mI_K (MC_446 L xs) _ _ _).trans (KC_446 L xs)
set_option maxRecDepth 20000 in
theorem LN_447 (L : Nat) (xs : Nat → Int32) : (MC_447 L xs).1.length = 169 := by rw [KC_447]; rfl
theorem RR_447 (L : Nat) (xs : Nat → Int32) : (MC_447 L xs).2.2.2 = RC_445 := (mI_Rn (MC_446 L xs) _ _ _).trans (RR_446 L xs)
def IC_447 : Nat → Nat → Int32 := g_up IC_446 163 3 (0)
theorem II_447 (L : Nat) (xs : Nat → Int32) : ∀ i, i ≠ 0 → (MC_447 L xs).2.1 i = IC_447 i := mI_I (II_446 L xs)
theorem LL_447 (L : Nat) (xs : Nat → Int32) : ∀ i k, (MC_447 L xs).2.2.1 i k = 0 := mI_Ln (LL_446 L xs)
def MC_448 (L : Nat) (xs : Nat → Int32) : gM := mR (MC_447 L xs) 121 2 (some 163)
set_option maxRecDepth 20000 in
theorem ST_448 (L : Nat) (xs : Nat → Int32) : sR 26 (MC_447 L xs) (some 121) (2 : Int32) (some 163) = some (MC_448 L xs) := sR_of (n := 4) (by unfold g_k; rw [KC_447]; rfl) (by unfold g_k; rw [KC_447]; rfl) (by decide) (by decide)
theorem KC_448 (L : Nat) (xs : Nat → Int32) : (MC_448 L xs).1 = (g_K0 L).take 169 := (mR_K (MC_447 L xs) _ _ _).trans (KC_447 L xs)
set_option maxRecDepth 20000 in
theorem LN_448 (L : Nat) (xs : Nat → Int32) : (MC_448 L xs).1.length = 169 := by rw [KC_448]; rfl
def RC_448 : Nat → Nat → Option Nat := g_up RC_445 121 2 (some 163)
theorem RR_448 (L : Nat) (xs : Nat → Int32) : (MC_448 L xs).2.2.2 = RC_448 := mR_Rr (RR_447 L xs)
theorem II_448 (L : Nat) (xs : Nat → Int32) : ∀ i, i ≠ 0 → (MC_448 L xs).2.1 i = IC_447 i := mR_In (II_447 L xs)
theorem LL_448 (L : Nat) (xs : Nat → Int32) : ∀ i k, (MC_448 L xs).2.2.1 i k = 0 := mR_Ln (LL_447 L xs)
set_option maxRecDepth 20000 in
theorem GR_24 (L : Nat) (xs : Nat → Int32) : gR 11 (MC_448 L xs) (some 2) 8 = some (some 121) := gR_of (by unfold g_k; rw [KC_448]; rfl) (by rw [RR_448]; decide +kernel)
def MC_449 (L : Nat) (xs : Nat → Int32) : gM := nw (3, 0) (MC_448 L xs)
theorem NW_449 (L : Nat) (xs : Nat → Int32) : nw (3, 0) (MC_448 L xs) = MC_449 L xs := rfl
set_option maxRecDepth 20000 in
theorem KC_449 (L : Nat) (xs : Nat → Int32) : (MC_449 L xs).1 = (g_K0 L).take 170 := (nw_K _ (MC_448 L xs)).trans (by rw [KC_448]; rfl)
set_option maxRecDepth 20000 in
theorem LN_449 (L : Nat) (xs : Nat → Int32) : (MC_449 L xs).1.length = 170 := by rw [KC_449]; rfl
def RC_449 : Nat → Nat → Option Nat := g_row RC_448 169 (fun _ => none)
theorem RR_449 (L : Nat) (xs : Nat → Int32) : (MC_449 L xs).2.2.2 = RC_449 := nw_R (LN_448 L xs) (RR_448 L xs)
def IC_449 : Nat → Nat → Int32 := g_row IC_447 169 (fun _ => 0)
theorem II_449 (L : Nat) (xs : Nat → Int32) : ∀ i, i ≠ 0 → (MC_449 L xs).2.1 i = IC_449 i := nw_I (LN_448 L xs) (II_448 L xs)
theorem LL_449 (L : Nat) (xs : Nat → Int32) : ∀ i k, (MC_449 L xs).2.2.1 i k = 0 := nw_L (LL_448 L xs)
def MC_450 (L : Nat) (xs : Nat → Int32) : gM := nw (8, 0) (MC_449 L xs)
theorem NW_450 (L : Nat) (xs : Nat → Int32) : nw (8, 0) (MC_449 L xs) = MC_450 L xs := rfl
set_option maxRecDepth 20000 in
theorem KC_450 (L : Nat) (xs : Nat → Int32) : (MC_450 L xs).1 = (g_K0 L).take 171 := (nw_K _ (MC_449 L xs)).trans (by rw [KC_449]; rfl)
set_option maxRecDepth 20000 in
theorem LN_450 (L : Nat) (xs : Nat → Int32) : (MC_450 L xs).1.length = 171 := by rw [KC_450]; rfl
def RC_450 : Nat → Nat → Option Nat := g_row RC_449 170 (fun _ => none)
theorem RR_450 (L : Nat) (xs : Nat → Int32) : (MC_450 L xs).2.2.2 = RC_450 := nw_R (LN_449 L xs) (RR_449 L xs)
def IC_450 : Nat → Nat → Int32 := g_row IC_449 170 (fun _ => 0)
theorem II_450 (L : Nat) (xs : Nat → Int32) : ∀ i, i ≠ 0 → (MC_450 L xs).2.1 i = IC_450 i := nw_I (LN_449 L xs) (II_449 L xs)
theorem LL_450 (L : Nat) (xs : Nat → Int32) : ∀ i k, (MC_450 L xs).2.2.1 i k = 0 := nw_L (LL_449 L xs)
def MC_451 (L : Nat) (xs : Nat → Int32) : gM := nw (20, 49) (MC_450 L xs)
theorem NW_451 (L : Nat) (xs : Nat → Int32) : nw (20, 49) (MC_450 L xs) = MC_451 L xs := rfl
set_option maxRecDepth 20000 in
theorem KC_451 (L : Nat) (xs : Nat → Int32) : (MC_451 L xs).1 = (g_K0 L).take 172 := (nw_K _ (MC_450 L xs)).trans (by rw [KC_450]; rfl)
set_option maxRecDepth 20000 in
theorem LN_451 (L : Nat) (xs : Nat → Int32) : (MC_451 L xs).1.length = 172 := by rw [KC_451]; rfl
def RC_451 : Nat → Nat → Option Nat := g_row RC_450 171 (fun _ => none)
theorem RR_451 (L : Nat) (xs : Nat → Int32) : (MC_451 L xs).2.2.2 = RC_451 := nw_R (LN_450 L xs) (RR_450 L xs)
def IC_451 : Nat → Nat → Int32 := g_row IC_450 171 (fun _ => 0)
theorem II_451 (L : Nat) (xs : Nat → Int32) : ∀ i, i ≠ 0 → (MC_451 L xs).2.1 i = IC_451 i := nw_I (LN_450 L xs) (II_450 L xs)
theorem LL_451 (L : Nat) (xs : Nat → Int32) : ∀ i k, (MC_451 L xs).2.2.1 i k = 0 := nw_L (LL_450 L xs)
def MC_452 (L : Nat) (xs : Nat → Int32) : gM := mR (MC_451 L xs) 170 0 (some 171)
set_option maxRecDepth 20000 in
theorem ST_452 (L : Nat) (xs : Nat → Int32) : pR 8 (MC_451 L xs) (some 170) 0 (some 171) = some (MC_452 L xs) := pR_of (by unfold g_k; rw [KC_451]; rfl)
theorem KC_452 (L : Nat) (xs : Nat → Int32) : (MC_452 L xs).1 = (g_K0 L).take 172 := (mR_K (MC_451 L xs) _ _ _).trans (KC_451 L xs)
set_option maxRecDepth 20000 in
theorem LN_452 (L : Nat) (xs : Nat → Int32) : (MC_452 L xs).1.length = 172 := by rw [KC_452]; rfl
def RC_452 : Nat → Nat → Option Nat := g_up RC_451 170 0 (some 171)
theorem RR_452 (L : Nat) (xs : Nat → Int32) : (MC_452 L xs).2.2.2 = RC_452 := mR_Rr (RR_451 L xs)
theorem II_452 (L : Nat) (xs : Nat → Int32) : ∀ i, i ≠ 0 → (MC_452 L xs).2.1 i = IC_451 i := mR_In (II_451 L xs)
theorem LL_452 (L : Nat) (xs : Nat → Int32) : ∀ i k, (MC_452 L xs).2.2.1 i k = 0 := mR_Ln (LL_451 L xs)
def MC_453 (L : Nat) (xs : Nat → Int32) : gM := nw (20, 49) (MC_452 L xs)
theorem NW_453 (L : Nat) (xs : Nat → Int32) : nw (20, 49) (MC_452 L xs) = MC_453 L xs := rfl
set_option maxRecDepth 20000 in
theorem KC_453 (L : Nat) (xs : Nat → Int32) : (MC_453 L xs).1 = (g_K0 L).take 173 := (nw_K _ (MC_452 L xs)).trans (by rw [KC_452]; rfl)
set_option maxRecDepth 20000 in
theorem LN_453 (L : Nat) (xs : Nat → Int32) : (MC_453 L xs).1.length = 173 := by rw [KC_453]; rfl
def RC_453 : Nat → Nat → Option Nat := g_row RC_452 172 (fun _ => none)
theorem RR_453 (L : Nat) (xs : Nat → Int32) : (MC_453 L xs).2.2.2 = RC_453 := nw_R (LN_452 L xs) (RR_452 L xs)
def IC_453 : Nat → Nat → Int32 := g_row IC_451 172 (fun _ => 0)
theorem II_453 (L : Nat) (xs : Nat → Int32) : ∀ i, i ≠ 0 → (MC_453 L xs).2.1 i = IC_453 i := nw_I (LN_452 L xs) (II_452 L xs)
theorem LL_453 (L : Nat) (xs : Nat → Int32) : ∀ i k, (MC_453 L xs).2.2.1 i k = 0 := nw_L (LL_452 L xs)
def MC_454 (L : Nat) (xs : Nat → Int32) : gM := mR (MC_453 L xs) 170 1 (some 172)
set_option maxRecDepth 20000 in
theorem ST_454 (L : Nat) (xs : Nat → Int32) : pR 8 (MC_453 L xs) (some 170) 1 (some 172) = some (MC_454 L xs) := pR_of (by unfold g_k; rw [KC_453]; rfl)
theorem KC_454 (L : Nat) (xs : Nat → Int32) : (MC_454 L xs).1 = (g_K0 L).take 173 := (mR_K (MC_453 L xs) _ _ _).trans (KC_453 L xs)
set_option maxRecDepth 20000 in
theorem LN_454 (L : Nat) (xs : Nat → Int32) : (MC_454 L xs).1.length = 173 := by rw [KC_454]; rfl
def RC_454 : Nat → Nat → Option Nat := g_up RC_453 170 1 (some 172)
theorem RR_454 (L : Nat) (xs : Nat → Int32) : (MC_454 L xs).2.2.2 = RC_454 := mR_Rr (RR_453 L xs)
theorem II_454 (L : Nat) (xs : Nat → Int32) : ∀ i, i ≠ 0 → (MC_454 L xs).2.1 i = IC_453 i := mR_In (II_453 L xs)
theorem LL_454 (L : Nat) (xs : Nat → Int32) : ∀ i k, (MC_454 L xs).2.2.1 i k = 0 := mR_Ln (LL_453 L xs)
def MC_455 (L : Nat) (xs : Nat → Int32) : gM := nw (20, 7) (MC_454 L xs)
theorem NW_455 (L : Nat) (xs : Nat → Int32) : nw (20, 7) (MC_454 L xs) = MC_455 L xs := rfl
set_option maxRecDepth 20000 in
theorem KC_455 (L : Nat) (xs : Nat → Int32) : (MC_455 L xs).1 = (g_K0 L).take 174 := (nw_K _ (MC_454 L xs)).trans (by rw [KC_454]; rfl)
set_option maxRecDepth 20000 in
theorem LN_455 (L : Nat) (xs : Nat → Int32) : (MC_455 L xs).1.length = 174 := by rw [KC_455]; rfl
def RC_455 : Nat → Nat → Option Nat := g_row RC_454 173 (fun _ => none)
theorem RR_455 (L : Nat) (xs : Nat → Int32) : (MC_455 L xs).2.2.2 = RC_455 := nw_R (LN_454 L xs) (RR_454 L xs)
def IC_455 : Nat → Nat → Int32 := g_row IC_453 173 (fun _ => 0)
theorem II_455 (L : Nat) (xs : Nat → Int32) : ∀ i, i ≠ 0 → (MC_455 L xs).2.1 i = IC_455 i := nw_I (LN_454 L xs) (II_454 L xs)
theorem LL_455 (L : Nat) (xs : Nat → Int32) : ∀ i k, (MC_455 L xs).2.2.1 i k = 0 := nw_L (LL_454 L xs)
def MC_456 (L : Nat) (xs : Nat → Int32) : gM := mR (MC_455 L xs) 170 2 (some 173)
set_option maxRecDepth 20000 in
theorem ST_456 (L : Nat) (xs : Nat → Int32) : pR 8 (MC_455 L xs) (some 170) 2 (some 173) = some (MC_456 L xs) := pR_of (by unfold g_k; rw [KC_455]; rfl)
theorem KC_456 (L : Nat) (xs : Nat → Int32) : (MC_456 L xs).1 = (g_K0 L).take 174 := (mR_K (MC_455 L xs) _ _ _).trans (KC_455 L xs)
set_option maxRecDepth 20000 in
theorem LN_456 (L : Nat) (xs : Nat → Int32) : (MC_456 L xs).1.length = 174 := by rw [KC_456]; rfl
def RC_456 : Nat → Nat → Option Nat := g_up RC_455 170 2 (some 173)
theorem RR_456 (L : Nat) (xs : Nat → Int32) : (MC_456 L xs).2.2.2 = RC_456 := mR_Rr (RR_455 L xs)
theorem II_456 (L : Nat) (xs : Nat → Int32) : ∀ i, i ≠ 0 → (MC_456 L xs).2.1 i = IC_455 i := mR_In (II_455 L xs)
theorem LL_456 (L : Nat) (xs : Nat → Int32) : ∀ i k, (MC_456 L xs).2.2.1 i k = 0 := mR_Ln (LL_455 L xs)
def MC_457 (L : Nat) (xs : Nat → Int32) : gM := nw (20, 7) (MC_456 L xs)
theorem NW_457 (L : Nat) (xs : Nat → Int32) : nw (20, 7) (MC_456 L xs) = MC_457 L xs := rfl
set_option maxRecDepth 20000 in
theorem KC_457 (L : Nat) (xs : Nat → Int32) : (MC_457 L xs).1 = (g_K0 L).take 175 := (nw_K _ (MC_456 L xs)).trans (by rw [KC_456]; rfl)
set_option maxRecDepth 20000 in
theorem LN_457 (L : Nat) (xs : Nat → Int32) : (MC_457 L xs).1.length = 175 := by rw [KC_457]; rfl
def RC_457 : Nat → Nat → Option Nat := g_row RC_456 174 (fun _ => none)
theorem RR_457 (L : Nat) (xs : Nat → Int32) : (MC_457 L xs).2.2.2 = RC_457 := nw_R (LN_456 L xs) (RR_456 L xs)
def IC_457 : Nat → Nat → Int32 := g_row IC_455 174 (fun _ => 0)
theorem II_457 (L : Nat) (xs : Nat → Int32) : ∀ i, i ≠ 0 → (MC_457 L xs).2.1 i = IC_457 i := nw_I (LN_456 L xs) (II_456 L xs)
theorem LL_457 (L : Nat) (xs : Nat → Int32) : ∀ i k, (MC_457 L xs).2.2.1 i k = 0 := nw_L (LL_456 L xs)
def MC_458 (L : Nat) (xs : Nat → Int32) : gM := mR (MC_457 L xs) 170 3 (some 174)
set_option maxRecDepth 20000 in
theorem ST_458 (L : Nat) (xs : Nat → Int32) : pR 8 (MC_457 L xs) (some 170) 3 (some 174) = some (MC_458 L xs) := pR_of (by unfold g_k; rw [KC_457]; rfl)
theorem KC_458 (L : Nat) (xs : Nat → Int32) : (MC_458 L xs).1 = (g_K0 L).take 175 := (mR_K (MC_457 L xs) _ _ _).trans (KC_457 L xs)
set_option maxRecDepth 20000 in
theorem LN_458 (L : Nat) (xs : Nat → Int32) : (MC_458 L xs).1.length = 175 := by rw [KC_458]; rfl
def RC_458 : Nat → Nat → Option Nat := g_up RC_457 170 3 (some 174)
theorem RR_458 (L : Nat) (xs : Nat → Int32) : (MC_458 L xs).2.2.2 = RC_458 := mR_Rr (RR_457 L xs)
theorem II_458 (L : Nat) (xs : Nat → Int32) : ∀ i, i ≠ 0 → (MC_458 L xs).2.1 i = IC_457 i := mR_In (II_457 L xs)
theorem LL_458 (L : Nat) (xs : Nat → Int32) : ∀ i k, (MC_458 L xs).2.2.1 i k = 0 := mR_Ln (LL_457 L xs)
def MC_459 (L : Nat) (xs : Nat → Int32) : gM := mI (MC_458 L xs) 170 4 (0 : Int32)
set_option maxRecDepth 20000 in
theorem ST_459 (L : Nat) (xs : Nat → Int32) : pI 8 (MC_458 L xs) (some 170) 4 (0 : Int32) = some (MC_459 L xs) := pI_of (by unfold g_k; rw [KC_458]; rfl)
theorem KC_459 (L : Nat) (xs : Nat → Int32) : (MC_459 L xs).1 = (g_K0 L).take 175 := (mI_K (MC_458 L xs) _ _ _).trans (KC_458 L xs)
set_option maxRecDepth 20000 in
theorem LN_459 (L : Nat) (xs : Nat → Int32) : (MC_459 L xs).1.length = 175 := by rw [KC_459]; rfl
theorem RR_459 (L : Nat) (xs : Nat → Int32) : (MC_459 L xs).2.2.2 = RC_458 := (mI_Rn (MC_458 L xs) _ _ _).trans (RR_458 L xs)
def IC_459 : Nat → Nat → Int32 := g_up IC_457 170 4 (0)
theorem II_459 (L : Nat) (xs : Nat → Int32) : ∀ i, i ≠ 0 → (MC_459 L xs).2.1 i = IC_459 i := mI_I (II_458 L xs)
theorem LL_459 (L : Nat) (xs : Nat → Int32) : ∀ i k, (MC_459 L xs).2.2.1 i k = 0 := mI_Ln (LL_458 L xs)
def MC_460 (L : Nat) (xs : Nat → Int32) : gM := mI (MC_459 L xs) 170 5 (0 : Int32)
set_option maxRecDepth 20000 in
theorem ST_460 (L : Nat) (xs : Nat → Int32) : pI 8 (MC_459 L xs) (some 170) 5 (0 : Int32) = some (MC_460 L xs) := pI_of (by unfold g_k; rw [KC_459]; rfl)
theorem KC_460 (L : Nat) (xs : Nat → Int32) : (MC_460 L xs).1 = (g_K0 L).take 175 := (mI_K (MC_459 L xs) _ _ _).trans (KC_459 L xs)
set_option maxRecDepth 20000 in
theorem LN_460 (L : Nat) (xs : Nat → Int32) : (MC_460 L xs).1.length = 175 := by rw [KC_460]; rfl
theorem RR_460 (L : Nat) (xs : Nat → Int32) : (MC_460 L xs).2.2.2 = RC_458 := (mI_Rn (MC_459 L xs) _ _ _).trans (RR_459 L xs)
def IC_460 : Nat → Nat → Int32 := g_up IC_459 170 5 (0)
theorem II_460 (L : Nat) (xs : Nat → Int32) : ∀ i, i ≠ 0 → (MC_460 L xs).2.1 i = IC_460 i := mI_I (II_459 L xs)
theorem LL_460 (L : Nat) (xs : Nat → Int32) : ∀ i k, (MC_460 L xs).2.2.1 i k = 0 := mI_Ln (LL_459 L xs)
def MC_461 (L : Nat) (xs : Nat → Int32) : gM := mI (MC_460 L xs) 170 6 (0 : Int32)
set_option maxRecDepth 20000 in
theorem ST_461 (L : Nat) (xs : Nat → Int32) : pI 8 (MC_460 L xs) (some 170) 6 (0 : Int32) = some (MC_461 L xs) := pI_of (by unfold g_k; rw [KC_460]; rfl)
theorem KC_461 (L : Nat) (xs : Nat → Int32) : (MC_461 L xs).1 = (g_K0 L).take 175 := (mI_K (MC_460 L xs) _ _ _).trans (KC_460 L xs)
set_option maxRecDepth 20000 in
theorem LN_461 (L : Nat) (xs : Nat → Int32) : (MC_461 L xs).1.length = 175 := by rw [KC_461]; rfl
theorem RR_461 (L : Nat) (xs : Nat → Int32) : (MC_461 L xs).2.2.2 = RC_458 := (mI_Rn (MC_460 L xs) _ _ _).trans (RR_460 L xs)
def IC_461 : Nat → Nat → Int32 := g_up IC_460 170 6 (0)
theorem II_461 (L : Nat) (xs : Nat → Int32) : ∀ i, i ≠ 0 → (MC_461 L xs).2.1 i = IC_461 i := mI_I (II_460 L xs)
theorem LL_461 (L : Nat) (xs : Nat → Int32) : ∀ i k, (MC_461 L xs).2.2.1 i k = 0 := mI_Ln (LL_460 L xs)
def MC_462 (L : Nat) (xs : Nat → Int32) : gM := mR (MC_461 L xs) 169 0 (some 170)
set_option maxRecDepth 20000 in
theorem ST_462 (L : Nat) (xs : Nat → Int32) : pR 3 (MC_461 L xs) (some 169) 0 (some 170) = some (MC_462 L xs) := pR_of (by unfold g_k; rw [KC_461]; rfl)
theorem KC_462 (L : Nat) (xs : Nat → Int32) : (MC_462 L xs).1 = (g_K0 L).take 175 := (mR_K (MC_461 L xs) _ _ _).trans (KC_461 L xs)
set_option maxRecDepth 20000 in
theorem LN_462 (L : Nat) (xs : Nat → Int32) : (MC_462 L xs).1.length = 175 := by rw [KC_462]; rfl
def RC_462 : Nat → Nat → Option Nat := g_up RC_458 169 0 (some 170)
theorem RR_462 (L : Nat) (xs : Nat → Int32) : (MC_462 L xs).2.2.2 = RC_462 := mR_Rr (RR_461 L xs)
theorem II_462 (L : Nat) (xs : Nat → Int32) : ∀ i, i ≠ 0 → (MC_462 L xs).2.1 i = IC_461 i := mR_In (II_461 L xs)
theorem LL_462 (L : Nat) (xs : Nat → Int32) : ∀ i k, (MC_462 L xs).2.2.1 i k = 0 := mR_Ln (LL_461 L xs)
def MC_463 (L : Nat) (xs : Nat → Int32) : gM := mR (MC_462 L xs) 169 1 none
set_option maxRecDepth 20000 in
theorem ST_463 (L : Nat) (xs : Nat → Int32) : pR 3 (MC_462 L xs) (some 169) 1 none = some (MC_463 L xs) := pR_of (by unfold g_k; rw [KC_462]; rfl)
theorem KC_463 (L : Nat) (xs : Nat → Int32) : (MC_463 L xs).1 = (g_K0 L).take 175 := (mR_K (MC_462 L xs) _ _ _).trans (KC_462 L xs)
set_option maxRecDepth 20000 in
theorem LN_463 (L : Nat) (xs : Nat → Int32) : (MC_463 L xs).1.length = 175 := by rw [KC_463]; rfl
def RC_463 : Nat → Nat → Option Nat := g_up RC_462 169 1 none
theorem RR_463 (L : Nat) (xs : Nat → Int32) : (MC_463 L xs).2.2.2 = RC_463 := mR_Rr (RR_462 L xs)
theorem II_463 (L : Nat) (xs : Nat → Int32) : ∀ i, i ≠ 0 → (MC_463 L xs).2.1 i = IC_461 i := mR_In (II_462 L xs)
theorem LL_463 (L : Nat) (xs : Nat → Int32) : ∀ i k, (MC_463 L xs).2.2.1 i k = 0 := mR_Ln (LL_462 L xs)
def MC_464 (L : Nat) (xs : Nat → Int32) : gM := mI (MC_463 L xs) 169 2 (-1 : Int32)
set_option maxRecDepth 20000 in
theorem ST_464 (L : Nat) (xs : Nat → Int32) : pI 3 (MC_463 L xs) (some 169) 2 (-1 : Int32) = some (MC_464 L xs) := pI_of (by unfold g_k; rw [KC_463]; rfl)
theorem KC_464 (L : Nat) (xs : Nat → Int32) : (MC_464 L xs).1 = (g_K0 L).take 175 := (mI_K (MC_463 L xs) _ _ _).trans (KC_463 L xs)
set_option maxRecDepth 20000 in
theorem LN_464 (L : Nat) (xs : Nat → Int32) : (MC_464 L xs).1.length = 175 := by rw [KC_464]; rfl
theorem RR_464 (L : Nat) (xs : Nat → Int32) : (MC_464 L xs).2.2.2 = RC_463 := (mI_Rn (MC_463 L xs) _ _ _).trans (RR_463 L xs)
def IC_464 : Nat → Nat → Int32 := g_up IC_461 169 2 (-1)
theorem II_464 (L : Nat) (xs : Nat → Int32) : ∀ i, i ≠ 0 → (MC_464 L xs).2.1 i = IC_464 i := mI_I (II_463 L xs)
theorem LL_464 (L : Nat) (xs : Nat → Int32) : ∀ i k, (MC_464 L xs).2.2.1 i k = 0 := mI_Ln (LL_463 L xs)
def MC_465 (L : Nat) (xs : Nat → Int32) : gM := mI (MC_464 L xs) 169 3 (0 : Int32)
set_option maxRecDepth 20000 in
theorem ST_465 (L : Nat) (xs : Nat → Int32) : pI 3 (MC_464 L xs) (some 169) 3 (0 : Int32) = some (MC_465 L xs) := pI_of (by unfold g_k; rw [KC_464]; rfl)
theorem KC_465 (L : Nat) (xs : Nat → Int32) : (MC_465 L xs).1 = (g_K0 L).take 175 := (mI_K (MC_464 L xs) _ _ _).trans (KC_464 L xs)
set_option maxRecDepth 20000 in
theorem LN_465 (L : Nat) (xs : Nat → Int32) : (MC_465 L xs).1.length = 175 := by rw [KC_465]; rfl
theorem RR_465 (L : Nat) (xs : Nat → Int32) : (MC_465 L xs).2.2.2 = RC_463 := (mI_Rn (MC_464 L xs) _ _ _).trans (RR_464 L xs)
def IC_465 : Nat → Nat → Int32 := g_up IC_464 169 3 (0)
theorem II_465 (L : Nat) (xs : Nat → Int32) : ∀ i, i ≠ 0 → (MC_465 L xs).2.1 i = IC_465 i := mI_I (II_464 L xs)
theorem LL_465 (L : Nat) (xs : Nat → Int32) : ∀ i k, (MC_465 L xs).2.2.1 i k = 0 := mI_Ln (LL_464 L xs)
def MC_466 (L : Nat) (xs : Nat → Int32) : gM := mR (MC_465 L xs) 121 3 (some 169)
set_option maxRecDepth 20000 in
theorem ST_466 (L : Nat) (xs : Nat → Int32) : sR 26 (MC_465 L xs) (some 121) (3 : Int32) (some 169) = some (MC_466 L xs) := sR_of (n := 4) (by unfold g_k; rw [KC_465]; rfl) (by unfold g_k; rw [KC_465]; rfl) (by decide) (by decide)
theorem KC_466 (L : Nat) (xs : Nat → Int32) : (MC_466 L xs).1 = (g_K0 L).take 175 := (mR_K (MC_465 L xs) _ _ _).trans (KC_465 L xs)
set_option maxRecDepth 20000 in
theorem LN_466 (L : Nat) (xs : Nat → Int32) : (MC_466 L xs).1.length = 175 := by rw [KC_466]; rfl
def RC_466 : Nat → Nat → Option Nat := g_up RC_463 121 3 (some 169)
theorem RR_466 (L : Nat) (xs : Nat → Int32) : (MC_466 L xs).2.2.2 = RC_466 := mR_Rr (RR_465 L xs)
theorem II_466 (L : Nat) (xs : Nat → Int32) : ∀ i, i ≠ 0 → (MC_466 L xs).2.1 i = IC_465 i := mR_In (II_465 L xs)
theorem LL_466 (L : Nat) (xs : Nat → Int32) : ∀ i k, (MC_466 L xs).2.2.1 i k = 0 := mR_Ln (LL_465 L xs)
def MC_467 (L : Nat) (xs : Nat → Int32) : gM := nw (12, 0) (MC_466 L xs)
theorem NW_467 (L : Nat) (xs : Nat → Int32) : nw (12, 0) (MC_466 L xs) = MC_467 L xs := rfl
set_option maxRecDepth 20000 in
theorem KC_467 (L : Nat) (xs : Nat → Int32) : (MC_467 L xs).1 = (g_K0 L).take 176 := (nw_K _ (MC_466 L xs)).trans (by rw [KC_466]; rfl)
set_option maxRecDepth 20000 in
theorem LN_467 (L : Nat) (xs : Nat → Int32) : (MC_467 L xs).1.length = 176 := by rw [KC_467]; rfl
def RC_467 : Nat → Nat → Option Nat := g_row RC_466 175 (fun _ => none)
theorem RR_467 (L : Nat) (xs : Nat → Int32) : (MC_467 L xs).2.2.2 = RC_467 := nw_R (LN_466 L xs) (RR_466 L xs)
def IC_467 : Nat → Nat → Int32 := g_row IC_465 175 (fun _ => 0)
theorem II_467 (L : Nat) (xs : Nat → Int32) : ∀ i, i ≠ 0 → (MC_467 L xs).2.1 i = IC_467 i := nw_I (LN_466 L xs) (II_466 L xs)
theorem LL_467 (L : Nat) (xs : Nat → Int32) : ∀ i k, (MC_467 L xs).2.2.1 i k = 0 := nw_L (LL_466 L xs)
def MC_468 (L : Nat) (xs : Nat → Int32) : gM := nw (22, 400) (MC_467 L xs)
theorem NW_468 (L : Nat) (xs : Nat → Int32) : nw (22, 400) (MC_467 L xs) = MC_468 L xs := rfl
set_option maxRecDepth 20000 in
theorem KC_468 (L : Nat) (xs : Nat → Int32) : (MC_468 L xs).1 = (g_K0 L).take 177 := (nw_K _ (MC_467 L xs)).trans (by rw [KC_467]; rfl)
set_option maxRecDepth 20000 in
theorem LN_468 (L : Nat) (xs : Nat → Int32) : (MC_468 L xs).1.length = 177 := by rw [KC_468]; rfl
def RC_468 : Nat → Nat → Option Nat := g_row RC_467 176 (fun _ => none)
theorem RR_468 (L : Nat) (xs : Nat → Int32) : (MC_468 L xs).2.2.2 = RC_468 := nw_R (LN_467 L xs) (RR_467 L xs)
def IC_468 : Nat → Nat → Int32 := g_row IC_467 176 (fun _ => 0)
theorem II_468 (L : Nat) (xs : Nat → Int32) : ∀ i, i ≠ 0 → (MC_468 L xs).2.1 i = IC_468 i := nw_I (LN_467 L xs) (II_467 L xs)
theorem LL_468 (L : Nat) (xs : Nat → Int32) : ∀ i k, (MC_468 L xs).2.2.1 i k = 0 := nw_L (LL_467 L xs)
def MC_469 (L : Nat) (xs : Nat → Int32) : gM := mR (MC_468 L xs) 175 0 (some 176)
set_option maxRecDepth 20000 in
theorem ST_469 (L : Nat) (xs : Nat → Int32) : pR 12 (MC_468 L xs) (some 175) 0 (some 176) = some (MC_469 L xs) := pR_of (by unfold g_k; rw [KC_468]; rfl)
theorem KC_469 (L : Nat) (xs : Nat → Int32) : (MC_469 L xs).1 = (g_K0 L).take 177 := (mR_K (MC_468 L xs) _ _ _).trans (KC_468 L xs)
set_option maxRecDepth 20000 in
theorem LN_469 (L : Nat) (xs : Nat → Int32) : (MC_469 L xs).1.length = 177 := by rw [KC_469]; rfl
def RC_469 : Nat → Nat → Option Nat := g_up RC_468 175 0 (some 176)
theorem RR_469 (L : Nat) (xs : Nat → Int32) : (MC_469 L xs).2.2.2 = RC_469 := mR_Rr (RR_468 L xs)
theorem II_469 (L : Nat) (xs : Nat → Int32) : ∀ i, i ≠ 0 → (MC_469 L xs).2.1 i = IC_468 i := mR_In (II_468 L xs)
theorem LL_469 (L : Nat) (xs : Nat → Int32) : ∀ i k, (MC_469 L xs).2.2.1 i k = 0 := mR_Ln (LL_468 L xs)
def MC_470 (L : Nat) (xs : Nat → Int32) : gM := nw (20, 2400) (MC_469 L xs)
theorem NW_470 (L : Nat) (xs : Nat → Int32) : nw (20, 2400) (MC_469 L xs) = MC_470 L xs := rfl
set_option maxRecDepth 20000 in
theorem KC_470 (L : Nat) (xs : Nat → Int32) : (MC_470 L xs).1 = (g_K0 L).take 178 := (nw_K _ (MC_469 L xs)).trans (by rw [KC_469]; rfl)
set_option maxRecDepth 20000 in
theorem LN_470 (L : Nat) (xs : Nat → Int32) : (MC_470 L xs).1.length = 178 := by rw [KC_470]; rfl
def RC_470 : Nat → Nat → Option Nat := g_row RC_469 177 (fun _ => none)
theorem RR_470 (L : Nat) (xs : Nat → Int32) : (MC_470 L xs).2.2.2 = RC_470 := nw_R (LN_469 L xs) (RR_469 L xs)
def IC_470 : Nat → Nat → Int32 := g_row IC_468 177 (fun _ => 0)
theorem II_470 (L : Nat) (xs : Nat → Int32) : ∀ i, i ≠ 0 → (MC_470 L xs).2.1 i = IC_470 i := nw_I (LN_469 L xs) (II_469 L xs)
theorem LL_470 (L : Nat) (xs : Nat → Int32) : ∀ i k, (MC_470 L xs).2.2.1 i k = 0 := nw_L (LL_469 L xs)
def MC_471 (L : Nat) (xs : Nat → Int32) : gM := mR (MC_470 L xs) 175 3 (some 177)
set_option maxRecDepth 20000 in
theorem ST_471 (L : Nat) (xs : Nat → Int32) : pR 12 (MC_470 L xs) (some 175) 3 (some 177) = some (MC_471 L xs) := pR_of (by unfold g_k; rw [KC_470]; rfl)
theorem KC_471 (L : Nat) (xs : Nat → Int32) : (MC_471 L xs).1 = (g_K0 L).take 178 := (mR_K (MC_470 L xs) _ _ _).trans (KC_470 L xs)
set_option maxRecDepth 20000 in
theorem LN_471 (L : Nat) (xs : Nat → Int32) : (MC_471 L xs).1.length = 178 := by rw [KC_471]; rfl
def RC_471 : Nat → Nat → Option Nat := g_up RC_470 175 3 (some 177)
theorem RR_471 (L : Nat) (xs : Nat → Int32) : (MC_471 L xs).2.2.2 = RC_471 := mR_Rr (RR_470 L xs)
theorem II_471 (L : Nat) (xs : Nat → Int32) : ∀ i, i ≠ 0 → (MC_471 L xs).2.1 i = IC_470 i := mR_In (II_470 L xs)
theorem LL_471 (L : Nat) (xs : Nat → Int32) : ∀ i k, (MC_471 L xs).2.2.1 i k = 0 := mR_Ln (LL_470 L xs)
def MC_472 (L : Nat) (xs : Nat → Int32) : gM := nw (20, 7) (MC_471 L xs)
theorem NW_472 (L : Nat) (xs : Nat → Int32) : nw (20, 7) (MC_471 L xs) = MC_472 L xs := rfl
set_option maxRecDepth 20000 in
theorem KC_472 (L : Nat) (xs : Nat → Int32) : (MC_472 L xs).1 = (g_K0 L).take 179 := (nw_K _ (MC_471 L xs)).trans (by rw [KC_471]; rfl)
set_option maxRecDepth 20000 in
theorem LN_472 (L : Nat) (xs : Nat → Int32) : (MC_472 L xs).1.length = 179 := by rw [KC_472]; rfl
def RC_472 : Nat → Nat → Option Nat := g_row RC_471 178 (fun _ => none)
theorem RR_472 (L : Nat) (xs : Nat → Int32) : (MC_472 L xs).2.2.2 = RC_472 := nw_R (LN_471 L xs) (RR_471 L xs)
def IC_472 : Nat → Nat → Int32 := g_row IC_470 178 (fun _ => 0)
theorem II_472 (L : Nat) (xs : Nat → Int32) : ∀ i, i ≠ 0 → (MC_472 L xs).2.1 i = IC_472 i := nw_I (LN_471 L xs) (II_471 L xs)
theorem LL_472 (L : Nat) (xs : Nat → Int32) : ∀ i k, (MC_472 L xs).2.2.1 i k = 0 := nw_L (LL_471 L xs)
def MC_473 (L : Nat) (xs : Nat → Int32) : gM := mR (MC_472 L xs) 175 4 (some 178)
set_option maxRecDepth 20000 in
theorem ST_473 (L : Nat) (xs : Nat → Int32) : pR 12 (MC_472 L xs) (some 175) 4 (some 178) = some (MC_473 L xs) := pR_of (by unfold g_k; rw [KC_472]; rfl)
theorem KC_473 (L : Nat) (xs : Nat → Int32) : (MC_473 L xs).1 = (g_K0 L).take 179 := (mR_K (MC_472 L xs) _ _ _).trans (KC_472 L xs)
set_option maxRecDepth 20000 in
theorem LN_473 (L : Nat) (xs : Nat → Int32) : (MC_473 L xs).1.length = 179 := by rw [KC_473]; rfl
def RC_473 : Nat → Nat → Option Nat := g_up RC_472 175 4 (some 178)
theorem RR_473 (L : Nat) (xs : Nat → Int32) : (MC_473 L xs).2.2.2 = RC_473 := mR_Rr (RR_472 L xs)
theorem II_473 (L : Nat) (xs : Nat → Int32) : ∀ i, i ≠ 0 → (MC_473 L xs).2.1 i = IC_472 i := mR_In (II_472 L xs)
theorem LL_473 (L : Nat) (xs : Nat → Int32) : ∀ i k, (MC_473 L xs).2.2.1 i k = 0 := mR_Ln (LL_472 L xs)
def MC_474 (L : Nat) (xs : Nat → Int32) : gM := nw (20, 288) (MC_473 L xs)
theorem NW_474 (L : Nat) (xs : Nat → Int32) : nw (20, 288) (MC_473 L xs) = MC_474 L xs := rfl
set_option maxRecDepth 20000 in
theorem KC_474 (L : Nat) (xs : Nat → Int32) : (MC_474 L xs).1 = (g_K0 L).take 180 := (nw_K _ (MC_473 L xs)).trans (by rw [KC_473]; rfl)
set_option maxRecDepth 20000 in
theorem LN_474 (L : Nat) (xs : Nat → Int32) : (MC_474 L xs).1.length = 180 := by rw [KC_474]; rfl
def RC_474 : Nat → Nat → Option Nat := g_row RC_473 179 (fun _ => none)
theorem RR_474 (L : Nat) (xs : Nat → Int32) : (MC_474 L xs).2.2.2 = RC_474 := nw_R (LN_473 L xs) (RR_473 L xs)
def IC_474 : Nat → Nat → Int32 := g_row IC_472 179 (fun _ => 0)
theorem II_474 (L : Nat) (xs : Nat → Int32) : ∀ i, i ≠ 0 → (MC_474 L xs).2.1 i = IC_474 i := nw_I (LN_473 L xs) (II_473 L xs)
theorem LL_474 (L : Nat) (xs : Nat → Int32) : ∀ i k, (MC_474 L xs).2.2.1 i k = 0 := nw_L (LL_473 L xs)
def MC_475 (L : Nat) (xs : Nat → Int32) : gM := mR (MC_474 L xs) 175 5 (some 179)
set_option maxRecDepth 20000 in
theorem ST_475 (L : Nat) (xs : Nat → Int32) : pR 12 (MC_474 L xs) (some 175) 5 (some 179) = some (MC_475 L xs) := pR_of (by unfold g_k; rw [KC_474]; rfl)
theorem KC_475 (L : Nat) (xs : Nat → Int32) : (MC_475 L xs).1 = (g_K0 L).take 180 := (mR_K (MC_474 L xs) _ _ _).trans (KC_474 L xs)
set_option maxRecDepth 20000 in
theorem LN_475 (L : Nat) (xs : Nat → Int32) : (MC_475 L xs).1.length = 180 := by rw [KC_475]; rfl
def RC_475 : Nat → Nat → Option Nat := g_up RC_474 175 5 (some 179)
theorem RR_475 (L : Nat) (xs : Nat → Int32) : (MC_475 L xs).2.2.2 = RC_475 := mR_Rr (RR_474 L xs)
theorem II_475 (L : Nat) (xs : Nat → Int32) : ∀ i, i ≠ 0 → (MC_475 L xs).2.1 i = IC_474 i := mR_In (II_474 L xs)
theorem LL_475 (L : Nat) (xs : Nat → Int32) : ∀ i k, (MC_475 L xs).2.2.1 i k = 0 := mR_Ln (LL_474 L xs)
def MC_476 (L : Nat) (xs : Nat → Int32) : gM := nw (20, 6) (MC_475 L xs)
theorem NW_476 (L : Nat) (xs : Nat → Int32) : nw (20, 6) (MC_475 L xs) = MC_476 L xs := rfl
set_option maxRecDepth 20000 in
theorem KC_476 (L : Nat) (xs : Nat → Int32) : (MC_476 L xs).1 = (g_K0 L).take 181 := (nw_K _ (MC_475 L xs)).trans (by rw [KC_475]; rfl)
set_option maxRecDepth 20000 in
theorem LN_476 (L : Nat) (xs : Nat → Int32) : (MC_476 L xs).1.length = 181 := by rw [KC_476]; rfl
def RC_476 : Nat → Nat → Option Nat := g_row RC_475 180 (fun _ => none)
theorem RR_476 (L : Nat) (xs : Nat → Int32) : (MC_476 L xs).2.2.2 = RC_476 := nw_R (LN_475 L xs) (RR_475 L xs)
def IC_476 : Nat → Nat → Int32 := g_row IC_474 180 (fun _ => 0)
theorem II_476 (L : Nat) (xs : Nat → Int32) : ∀ i, i ≠ 0 → (MC_476 L xs).2.1 i = IC_476 i := nw_I (LN_475 L xs) (II_475 L xs)
theorem LL_476 (L : Nat) (xs : Nat → Int32) : ∀ i k, (MC_476 L xs).2.2.1 i k = 0 := nw_L (LL_475 L xs)
def MC_477 (L : Nat) (xs : Nat → Int32) : gM := mR (MC_476 L xs) 175 6 (some 180)
set_option maxRecDepth 20000 in
theorem ST_477 (L : Nat) (xs : Nat → Int32) : pR 12 (MC_476 L xs) (some 175) 6 (some 180) = some (MC_477 L xs) := pR_of (by unfold g_k; rw [KC_476]; rfl)
theorem KC_477 (L : Nat) (xs : Nat → Int32) : (MC_477 L xs).1 = (g_K0 L).take 181 := (mR_K (MC_476 L xs) _ _ _).trans (KC_476 L xs)
set_option maxRecDepth 20000 in
theorem LN_477 (L : Nat) (xs : Nat → Int32) : (MC_477 L xs).1.length = 181 := by rw [KC_477]; rfl
def RC_477 : Nat → Nat → Option Nat := g_up RC_476 175 6 (some 180)
theorem RR_477 (L : Nat) (xs : Nat → Int32) : (MC_477 L xs).2.2.2 = RC_477 := mR_Rr (RR_476 L xs)
theorem II_477 (L : Nat) (xs : Nat → Int32) : ∀ i, i ≠ 0 → (MC_477 L xs).2.1 i = IC_476 i := mR_In (II_476 L xs)
theorem LL_477 (L : Nat) (xs : Nat → Int32) : ∀ i k, (MC_477 L xs).2.2.1 i k = 0 := mR_Ln (LL_476 L xs)
def MC_478 (L : Nat) (xs : Nat → Int32) : gM := nw (20, 157) (MC_477 L xs)
theorem NW_478 (L : Nat) (xs : Nat → Int32) : nw (20, 157) (MC_477 L xs) = MC_478 L xs := rfl
set_option maxRecDepth 20000 in
theorem KC_478 (L : Nat) (xs : Nat → Int32) : (MC_478 L xs).1 = (g_K0 L).take 182 := (nw_K _ (MC_477 L xs)).trans (by rw [KC_477]; rfl)
set_option maxRecDepth 20000 in
theorem LN_478 (L : Nat) (xs : Nat → Int32) : (MC_478 L xs).1.length = 182 := by rw [KC_478]; rfl
def RC_478 : Nat → Nat → Option Nat := g_row RC_477 181 (fun _ => none)
theorem RR_478 (L : Nat) (xs : Nat → Int32) : (MC_478 L xs).2.2.2 = RC_478 := nw_R (LN_477 L xs) (RR_477 L xs)
def IC_478 : Nat → Nat → Int32 := g_row IC_476 181 (fun _ => 0)
theorem II_478 (L : Nat) (xs : Nat → Int32) : ∀ i, i ≠ 0 → (MC_478 L xs).2.1 i = IC_478 i := nw_I (LN_477 L xs) (II_477 L xs)
theorem LL_478 (L : Nat) (xs : Nat → Int32) : ∀ i k, (MC_478 L xs).2.2.1 i k = 0 := nw_L (LL_477 L xs)
def MC_479 (L : Nat) (xs : Nat → Int32) : gM := mR (MC_478 L xs) 175 7 (some 181)
set_option maxRecDepth 20000 in
theorem ST_479 (L : Nat) (xs : Nat → Int32) : pR 12 (MC_478 L xs) (some 175) 7 (some 181) = some (MC_479 L xs) := pR_of (by unfold g_k; rw [KC_478]; rfl)
theorem KC_479 (L : Nat) (xs : Nat → Int32) : (MC_479 L xs).1 = (g_K0 L).take 182 := (mR_K (MC_478 L xs) _ _ _).trans (KC_478 L xs)
set_option maxRecDepth 20000 in
theorem LN_479 (L : Nat) (xs : Nat → Int32) : (MC_479 L xs).1.length = 182 := by rw [KC_479]; rfl
def RC_479 : Nat → Nat → Option Nat := g_up RC_478 175 7 (some 181)
theorem RR_479 (L : Nat) (xs : Nat → Int32) : (MC_479 L xs).2.2.2 = RC_479 := mR_Rr (RR_478 L xs)
theorem II_479 (L : Nat) (xs : Nat → Int32) : ∀ i, i ≠ 0 → (MC_479 L xs).2.1 i = IC_478 i := mR_In (II_478 L xs)
theorem LL_479 (L : Nat) (xs : Nat → Int32) : ∀ i k, (MC_479 L xs).2.2.1 i k = 0 := mR_Ln (LL_478 L xs)
def MC_480 (L : Nat) (xs : Nat → Int32) : gM := nw (20, 400) (MC_479 L xs)
theorem NW_480 (L : Nat) (xs : Nat → Int32) : nw (20, 400) (MC_479 L xs) = MC_480 L xs := rfl
set_option maxRecDepth 20000 in
theorem KC_480 (L : Nat) (xs : Nat → Int32) : (MC_480 L xs).1 = (g_K0 L).take 183 := (nw_K _ (MC_479 L xs)).trans (by rw [KC_479]; rfl)
set_option maxRecDepth 20000 in
theorem LN_480 (L : Nat) (xs : Nat → Int32) : (MC_480 L xs).1.length = 183 := by rw [KC_480]; rfl
def RC_480 : Nat → Nat → Option Nat := g_row RC_479 182 (fun _ => none)
theorem RR_480 (L : Nat) (xs : Nat → Int32) : (MC_480 L xs).2.2.2 = RC_480 := nw_R (LN_479 L xs) (RR_479 L xs)
def IC_480 : Nat → Nat → Int32 := g_row IC_478 182 (fun _ => 0)
theorem II_480 (L : Nat) (xs : Nat → Int32) : ∀ i, i ≠ 0 → (MC_480 L xs).2.1 i = IC_480 i := nw_I (LN_479 L xs) (II_479 L xs)
theorem LL_480 (L : Nat) (xs : Nat → Int32) : ∀ i k, (MC_480 L xs).2.2.1 i k = 0 := nw_L (LL_479 L xs)
def MC_481 (L : Nat) (xs : Nat → Int32) : gM := mR (MC_480 L xs) 175 15 (some 182)
set_option maxRecDepth 20000 in
theorem ST_481 (L : Nat) (xs : Nat → Int32) : pR 12 (MC_480 L xs) (some 175) 15 (some 182) = some (MC_481 L xs) := pR_of (by unfold g_k; rw [KC_480]; rfl)
theorem KC_481 (L : Nat) (xs : Nat → Int32) : (MC_481 L xs).1 = (g_K0 L).take 183 := (mR_K (MC_480 L xs) _ _ _).trans (KC_480 L xs)
set_option maxRecDepth 20000 in
theorem LN_481 (L : Nat) (xs : Nat → Int32) : (MC_481 L xs).1.length = 183 := by rw [KC_481]; rfl
def RC_481 : Nat → Nat → Option Nat := g_up RC_480 175 15 (some 182)
theorem RR_481 (L : Nat) (xs : Nat → Int32) : (MC_481 L xs).2.2.2 = RC_481 := mR_Rr (RR_480 L xs)
theorem II_481 (L : Nat) (xs : Nat → Int32) : ∀ i, i ≠ 0 → (MC_481 L xs).2.1 i = IC_480 i := mR_In (II_480 L xs)
theorem LL_481 (L : Nat) (xs : Nat → Int32) : ∀ i k, (MC_481 L xs).2.2.1 i k = 0 := mR_Ln (LL_480 L xs)
def MC_482 (L : Nat) (xs : Nat → Int32) : gM := nw (21, 64) (MC_481 L xs)
theorem NW_482 (L : Nat) (xs : Nat → Int32) : nw (21, 64) (MC_481 L xs) = MC_482 L xs := rfl
set_option maxRecDepth 20000 in
theorem KC_482 (L : Nat) (xs : Nat → Int32) : (MC_482 L xs).1 = (g_K0 L).take 184 := (nw_K _ (MC_481 L xs)).trans (by rw [KC_481]; rfl)
set_option maxRecDepth 20000 in
theorem LN_482 (L : Nat) (xs : Nat → Int32) : (MC_482 L xs).1.length = 184 := by rw [KC_482]; rfl
def RC_482 : Nat → Nat → Option Nat := g_row RC_481 183 (fun _ => none)
theorem RR_482 (L : Nat) (xs : Nat → Int32) : (MC_482 L xs).2.2.2 = RC_482 := nw_R (LN_481 L xs) (RR_481 L xs)
def IC_482 : Nat → Nat → Int32 := g_row IC_480 183 (fun _ => 0)
theorem II_482 (L : Nat) (xs : Nat → Int32) : ∀ i, i ≠ 0 → (MC_482 L xs).2.1 i = IC_482 i := nw_I (LN_481 L xs) (II_481 L xs)
theorem LL_482 (L : Nat) (xs : Nat → Int32) : ∀ i k, (MC_482 L xs).2.2.1 i k = 0 := nw_L (LL_481 L xs)
def MC_483 (L : Nat) (xs : Nat → Int32) : gM := mR (MC_482 L xs) 175 17 (some 183)
set_option maxRecDepth 20000 in
theorem ST_483 (L : Nat) (xs : Nat → Int32) : pR 12 (MC_482 L xs) (some 175) 17 (some 183) = some (MC_483 L xs) := pR_of (by unfold g_k; rw [KC_482]; rfl)
theorem KC_483 (L : Nat) (xs : Nat → Int32) : (MC_483 L xs).1 = (g_K0 L).take 184 := (mR_K (MC_482 L xs) _ _ _).trans (KC_482 L xs)
set_option maxRecDepth 20000 in
theorem LN_483 (L : Nat) (xs : Nat → Int32) : (MC_483 L xs).1.length = 184 := by rw [KC_483]; rfl
def RC_483 : Nat → Nat → Option Nat := g_up RC_482 175 17 (some 183)
theorem RR_483 (L : Nat) (xs : Nat → Int32) : (MC_483 L xs).2.2.2 = RC_483 := mR_Rr (RR_482 L xs)
theorem II_483 (L : Nat) (xs : Nat → Int32) : ∀ i, i ≠ 0 → (MC_483 L xs).2.1 i = IC_482 i := mR_In (II_482 L xs)
theorem LL_483 (L : Nat) (xs : Nat → Int32) : ∀ i k, (MC_483 L xs).2.2.1 i k = 0 := mR_Ln (LL_482 L xs)
def MC_484 (L : Nat) (xs : Nat → Int32) : gM := nw (21, 14) (MC_483 L xs)
theorem NW_484 (L : Nat) (xs : Nat → Int32) : nw (21, 14) (MC_483 L xs) = MC_484 L xs := rfl
set_option maxRecDepth 20000 in
theorem KC_484 (L : Nat) (xs : Nat → Int32) : (MC_484 L xs).1 = (g_K0 L).take 185 := (nw_K _ (MC_483 L xs)).trans (by rw [KC_483]; rfl)
set_option maxRecDepth 20000 in
theorem LN_484 (L : Nat) (xs : Nat → Int32) : (MC_484 L xs).1.length = 185 := by rw [KC_484]; rfl
def RC_484 : Nat → Nat → Option Nat := g_row RC_483 184 (fun _ => none)
theorem RR_484 (L : Nat) (xs : Nat → Int32) : (MC_484 L xs).2.2.2 = RC_484 := nw_R (LN_483 L xs) (RR_483 L xs)
def IC_484 : Nat → Nat → Int32 := g_row IC_482 184 (fun _ => 0)
theorem II_484 (L : Nat) (xs : Nat → Int32) : ∀ i, i ≠ 0 → (MC_484 L xs).2.1 i = IC_484 i := nw_I (LN_483 L xs) (II_483 L xs)
theorem LL_484 (L : Nat) (xs : Nat → Int32) : ∀ i k, (MC_484 L xs).2.2.1 i k = 0 := nw_L (LL_483 L xs)
def MC_485 (L : Nat) (xs : Nat → Int32) : gM := mR (MC_484 L xs) 175 19 (some 184)
set_option maxRecDepth 20000 in
theorem ST_485 (L : Nat) (xs : Nat → Int32) : pR 12 (MC_484 L xs) (some 175) 19 (some 184) = some (MC_485 L xs) := pR_of (by unfold g_k; rw [KC_484]; rfl)
theorem KC_485 (L : Nat) (xs : Nat → Int32) : (MC_485 L xs).1 = (g_K0 L).take 185 := (mR_K (MC_484 L xs) _ _ _).trans (KC_484 L xs)
set_option maxRecDepth 20000 in
theorem LN_485 (L : Nat) (xs : Nat → Int32) : (MC_485 L xs).1.length = 185 := by rw [KC_485]; rfl
def RC_485 : Nat → Nat → Option Nat := g_up RC_484 175 19 (some 184)
theorem RR_485 (L : Nat) (xs : Nat → Int32) : (MC_485 L xs).2.2.2 = RC_485 := mR_Rr (RR_484 L xs)
theorem II_485 (L : Nat) (xs : Nat → Int32) : ∀ i, i ≠ 0 → (MC_485 L xs).2.1 i = IC_484 i := mR_In (II_484 L xs)
theorem LL_485 (L : Nat) (xs : Nat → Int32) : ∀ i k, (MC_485 L xs).2.2.1 i k = 0 := mR_Ln (LL_484 L xs)
def MC_486 (L : Nat) (xs : Nat → Int32) : gM := nw (20, 157) (MC_485 L xs)
theorem NW_486 (L : Nat) (xs : Nat → Int32) : nw (20, 157) (MC_485 L xs) = MC_486 L xs := rfl
set_option maxRecDepth 20000 in
theorem KC_486 (L : Nat) (xs : Nat → Int32) : (MC_486 L xs).1 = (g_K0 L).take 186 := (nw_K _ (MC_485 L xs)).trans (by rw [KC_485]; rfl)
set_option maxRecDepth 20000 in
theorem LN_486 (L : Nat) (xs : Nat → Int32) : (MC_486 L xs).1.length = 186 := by rw [KC_486]; rfl
def RC_486 : Nat → Nat → Option Nat := g_row RC_485 185 (fun _ => none)
theorem RR_486 (L : Nat) (xs : Nat → Int32) : (MC_486 L xs).2.2.2 = RC_486 := nw_R (LN_485 L xs) (RR_485 L xs)
def IC_486 : Nat → Nat → Int32 := g_row IC_484 185 (fun _ => 0)
theorem II_486 (L : Nat) (xs : Nat → Int32) : ∀ i, i ≠ 0 → (MC_486 L xs).2.1 i = IC_486 i := nw_I (LN_485 L xs) (II_485 L xs)
theorem LL_486 (L : Nat) (xs : Nat → Int32) : ∀ i k, (MC_486 L xs).2.2.1 i k = 0 := nw_L (LL_485 L xs)
def MC_487 (L : Nat) (xs : Nat → Int32) : gM := mR (MC_486 L xs) 175 20 (some 185)
set_option maxRecDepth 20000 in
theorem ST_487 (L : Nat) (xs : Nat → Int32) : pR 12 (MC_486 L xs) (some 175) 20 (some 185) = some (MC_487 L xs) := pR_of (by unfold g_k; rw [KC_486]; rfl)
theorem KC_487 (L : Nat) (xs : Nat → Int32) : (MC_487 L xs).1 = (g_K0 L).take 186 := (mR_K (MC_486 L xs) _ _ _).trans (KC_486 L xs)
set_option maxRecDepth 20000 in
theorem LN_487 (L : Nat) (xs : Nat → Int32) : (MC_487 L xs).1.length = 186 := by rw [KC_487]; rfl
def RC_487 : Nat → Nat → Option Nat := g_up RC_486 175 20 (some 185)
theorem RR_487 (L : Nat) (xs : Nat → Int32) : (MC_487 L xs).2.2.2 = RC_487 := mR_Rr (RR_486 L xs)
theorem II_487 (L : Nat) (xs : Nat → Int32) : ∀ i, i ≠ 0 → (MC_487 L xs).2.1 i = IC_486 i := mR_In (II_486 L xs)
theorem LL_487 (L : Nat) (xs : Nat → Int32) : ∀ i k, (MC_487 L xs).2.2.1 i k = 0 := mR_Ln (LL_486 L xs)
def MC_488 (L : Nat) (xs : Nat → Int32) : gM := mI (MC_487 L xs) 175 21 (-1 : Int32)
set_option maxRecDepth 20000 in
theorem ST_488 (L : Nat) (xs : Nat → Int32) : pI 12 (MC_487 L xs) (some 175) 21 (-1 : Int32) = some (MC_488 L xs) := pI_of (by unfold g_k; rw [KC_487]; rfl)
theorem KC_488 (L : Nat) (xs : Nat → Int32) : (MC_488 L xs).1 = (g_K0 L).take 186 := (mI_K (MC_487 L xs) _ _ _).trans (KC_487 L xs)
set_option maxRecDepth 20000 in
theorem LN_488 (L : Nat) (xs : Nat → Int32) : (MC_488 L xs).1.length = 186 := by rw [KC_488]; rfl
theorem RR_488 (L : Nat) (xs : Nat → Int32) : (MC_488 L xs).2.2.2 = RC_487 := (mI_Rn (MC_487 L xs) _ _ _).trans (RR_487 L xs)
def IC_488 : Nat → Nat → Int32 := g_up IC_486 175 21 (-1)
theorem II_488 (L : Nat) (xs : Nat → Int32) : ∀ i, i ≠ 0 → (MC_488 L xs).2.1 i = IC_488 i := mI_I (II_487 L xs)
theorem LL_488 (L : Nat) (xs : Nat → Int32) : ∀ i k, (MC_488 L xs).2.2.1 i k = 0 := mI_Ln (LL_487 L xs)
def MC_489 (L : Nat) (xs : Nat → Int32) : gM := nw (20, 49) (MC_488 L xs)
theorem NW_489 (L : Nat) (xs : Nat → Int32) : nw (20, 49) (MC_488 L xs) = MC_489 L xs := rfl
set_option maxRecDepth 20000 in
theorem KC_489 (L : Nat) (xs : Nat → Int32) : (MC_489 L xs).1 = (g_K0 L).take 187 := (nw_K _ (MC_488 L xs)).trans (by rw [KC_488]; rfl)
set_option maxRecDepth 20000 in
theorem LN_489 (L : Nat) (xs : Nat → Int32) : (MC_489 L xs).1.length = 187 := by rw [KC_489]; rfl
def RC_489 : Nat → Nat → Option Nat := g_row RC_487 186 (fun _ => none)
theorem RR_489 (L : Nat) (xs : Nat → Int32) : (MC_489 L xs).2.2.2 = RC_489 := nw_R (LN_488 L xs) (RR_488 L xs)
def IC_489 : Nat → Nat → Int32 := g_row IC_488 186 (fun _ => 0)
theorem II_489 (L : Nat) (xs : Nat → Int32) : ∀ i, i ≠ 0 → (MC_489 L xs).2.1 i = IC_489 i := nw_I (LN_488 L xs) (II_488 L xs)
theorem LL_489 (L : Nat) (xs : Nat → Int32) : ∀ i k, (MC_489 L xs).2.2.1 i k = 0 := nw_L (LL_488 L xs)
def MC_490 (L : Nat) (xs : Nat → Int32) : gM := mR (MC_489 L xs) 175 23 (some 186)
set_option maxRecDepth 20000 in
theorem ST_490 (L : Nat) (xs : Nat → Int32) : pR 12 (MC_489 L xs) (some 175) 23 (some 186) = some (MC_490 L xs) := pR_of (by unfold g_k; rw [KC_489]; rfl)
theorem KC_490 (L : Nat) (xs : Nat → Int32) : (MC_490 L xs).1 = (g_K0 L).take 187 := (mR_K (MC_489 L xs) _ _ _).trans (KC_489 L xs)
set_option maxRecDepth 20000 in
theorem LN_490 (L : Nat) (xs : Nat → Int32) : (MC_490 L xs).1.length = 187 := by rw [KC_490]; rfl
def RC_490 : Nat → Nat → Option Nat := g_up RC_489 175 23 (some 186)
theorem RR_490 (L : Nat) (xs : Nat → Int32) : (MC_490 L xs).2.2.2 = RC_490 := mR_Rr (RR_489 L xs)
theorem II_490 (L : Nat) (xs : Nat → Int32) : ∀ i, i ≠ 0 → (MC_490 L xs).2.1 i = IC_489 i := mR_In (II_489 L xs)
theorem LL_490 (L : Nat) (xs : Nat → Int32) : ∀ i k, (MC_490 L xs).2.2.1 i k = 0 := mR_Ln (LL_489 L xs)
def MC_491 (L : Nat) (xs : Nat → Int32) : gM := nw (20, 3140) (MC_490 L xs)
theorem NW_491 (L : Nat) (xs : Nat → Int32) : nw (20, 3140) (MC_490 L xs) = MC_491 L xs := rfl
set_option maxRecDepth 20000 in
theorem KC_491 (L : Nat) (xs : Nat → Int32) : (MC_491 L xs).1 = (g_K0 L).take 188 := (nw_K _ (MC_490 L xs)).trans (by rw [KC_490]; rfl)
set_option maxRecDepth 20000 in
theorem LN_491 (L : Nat) (xs : Nat → Int32) : (MC_491 L xs).1.length = 188 := by rw [KC_491]; rfl
def RC_491 : Nat → Nat → Option Nat := g_row RC_490 187 (fun _ => none)
theorem RR_491 (L : Nat) (xs : Nat → Int32) : (MC_491 L xs).2.2.2 = RC_491 := nw_R (LN_490 L xs) (RR_490 L xs)
def IC_491 : Nat → Nat → Int32 := g_row IC_489 187 (fun _ => 0)
theorem II_491 (L : Nat) (xs : Nat → Int32) : ∀ i, i ≠ 0 → (MC_491 L xs).2.1 i = IC_491 i := nw_I (LN_490 L xs) (II_490 L xs)
theorem LL_491 (L : Nat) (xs : Nat → Int32) : ∀ i k, (MC_491 L xs).2.2.1 i k = 0 := nw_L (LL_490 L xs)
def MC_492 (L : Nat) (xs : Nat → Int32) : gM := mR (MC_491 L xs) 175 24 (some 187)
set_option maxRecDepth 20000 in
theorem ST_492 (L : Nat) (xs : Nat → Int32) : pR 12 (MC_491 L xs) (some 175) 24 (some 187) = some (MC_492 L xs) := pR_of (by unfold g_k; rw [KC_491]; rfl)
theorem KC_492 (L : Nat) (xs : Nat → Int32) : (MC_492 L xs).1 = (g_K0 L).take 188 := (mR_K (MC_491 L xs) _ _ _).trans (KC_491 L xs)
set_option maxRecDepth 20000 in
theorem LN_492 (L : Nat) (xs : Nat → Int32) : (MC_492 L xs).1.length = 188 := by rw [KC_492]; rfl
def RC_492 : Nat → Nat → Option Nat := g_up RC_491 175 24 (some 187)
theorem RR_492 (L : Nat) (xs : Nat → Int32) : (MC_492 L xs).2.2.2 = RC_492 := mR_Rr (RR_491 L xs)
theorem II_492 (L : Nat) (xs : Nat → Int32) : ∀ i, i ≠ 0 → (MC_492 L xs).2.1 i = IC_491 i := mR_In (II_491 L xs)
theorem LL_492 (L : Nat) (xs : Nat → Int32) : ∀ i k, (MC_492 L xs).2.2.1 i k = 0 := mR_Ln (LL_491 L xs)
def MC_493 (L : Nat) (xs : Nat → Int32) : gM := nw (20, 157) (MC_492 L xs)
theorem NW_493 (L : Nat) (xs : Nat → Int32) : nw (20, 157) (MC_492 L xs) = MC_493 L xs := rfl
set_option maxRecDepth 20000 in
theorem KC_493 (L : Nat) (xs : Nat → Int32) : (MC_493 L xs).1 = (g_K0 L).take 189 := (nw_K _ (MC_492 L xs)).trans (by rw [KC_492]; rfl)
set_option maxRecDepth 20000 in
theorem LN_493 (L : Nat) (xs : Nat → Int32) : (MC_493 L xs).1.length = 189 := by rw [KC_493]; rfl
def RC_493 : Nat → Nat → Option Nat := g_row RC_492 188 (fun _ => none)
theorem RR_493 (L : Nat) (xs : Nat → Int32) : (MC_493 L xs).2.2.2 = RC_493 := nw_R (LN_492 L xs) (RR_492 L xs)
def IC_493 : Nat → Nat → Int32 := g_row IC_491 188 (fun _ => 0)
theorem II_493 (L : Nat) (xs : Nat → Int32) : ∀ i, i ≠ 0 → (MC_493 L xs).2.1 i = IC_493 i := nw_I (LN_492 L xs) (II_492 L xs)
theorem LL_493 (L : Nat) (xs : Nat → Int32) : ∀ i k, (MC_493 L xs).2.2.1 i k = 0 := nw_L (LL_492 L xs)
def MC_494 (L : Nat) (xs : Nat → Int32) : gM := mR (MC_493 L xs) 175 26 (some 188)
set_option maxRecDepth 20000 in
theorem ST_494 (L : Nat) (xs : Nat → Int32) : pR 12 (MC_493 L xs) (some 175) 26 (some 188) = some (MC_494 L xs) := pR_of (by unfold g_k; rw [KC_493]; rfl)
theorem KC_494 (L : Nat) (xs : Nat → Int32) : (MC_494 L xs).1 = (g_K0 L).take 189 := (mR_K (MC_493 L xs) _ _ _).trans (KC_493 L xs)
set_option maxRecDepth 20000 in
theorem LN_494 (L : Nat) (xs : Nat → Int32) : (MC_494 L xs).1.length = 189 := by rw [KC_494]; rfl
def RC_494 : Nat → Nat → Option Nat := g_up RC_493 175 26 (some 188)
theorem RR_494 (L : Nat) (xs : Nat → Int32) : (MC_494 L xs).2.2.2 = RC_494 := mR_Rr (RR_493 L xs)
theorem II_494 (L : Nat) (xs : Nat → Int32) : ∀ i, i ≠ 0 → (MC_494 L xs).2.1 i = IC_493 i := mR_In (II_493 L xs)
theorem LL_494 (L : Nat) (xs : Nat → Int32) : ∀ i k, (MC_494 L xs).2.2.1 i k = 0 := mR_Ln (LL_493 L xs)
def MC_495 (L : Nat) (xs : Nat → Int32) : gM := nw (20, 7) (MC_494 L xs)
theorem NW_495 (L : Nat) (xs : Nat → Int32) : nw (20, 7) (MC_494 L xs) = MC_495 L xs := rfl
set_option maxRecDepth 20000 in
theorem KC_495 (L : Nat) (xs : Nat → Int32) : (MC_495 L xs).1 = (g_K0 L).take 190 := (nw_K _ (MC_494 L xs)).trans (by rw [KC_494]; rfl)
set_option maxRecDepth 20000 in
theorem LN_495 (L : Nat) (xs : Nat → Int32) : (MC_495 L xs).1.length = 190 := by rw [KC_495]; rfl
def RC_495 : Nat → Nat → Option Nat := g_row RC_494 189 (fun _ => none)
theorem RR_495 (L : Nat) (xs : Nat → Int32) : (MC_495 L xs).2.2.2 = RC_495 := nw_R (LN_494 L xs) (RR_494 L xs)
def IC_495 : Nat → Nat → Int32 := g_row IC_493 189 (fun _ => 0)
theorem II_495 (L : Nat) (xs : Nat → Int32) : ∀ i, i ≠ 0 → (MC_495 L xs).2.1 i = IC_495 i := nw_I (LN_494 L xs) (II_494 L xs)
theorem LL_495 (L : Nat) (xs : Nat → Int32) : ∀ i k, (MC_495 L xs).2.2.1 i k = 0 := nw_L (LL_494 L xs)
def MC_496 (L : Nat) (xs : Nat → Int32) : gM := mR (MC_495 L xs) 175 27 (some 189)
set_option maxRecDepth 20000 in
theorem ST_496 (L : Nat) (xs : Nat → Int32) : pR 12 (MC_495 L xs) (some 175) 27 (some 189) = some (MC_496 L xs) := pR_of (by unfold g_k; rw [KC_495]; rfl)
theorem KC_496 (L : Nat) (xs : Nat → Int32) : (MC_496 L xs).1 = (g_K0 L).take 190 := (mR_K (MC_495 L xs) _ _ _).trans (KC_495 L xs)
set_option maxRecDepth 20000 in
theorem LN_496 (L : Nat) (xs : Nat → Int32) : (MC_496 L xs).1.length = 190 := by rw [KC_496]; rfl
def RC_496 : Nat → Nat → Option Nat := g_up RC_495 175 27 (some 189)
theorem RR_496 (L : Nat) (xs : Nat → Int32) : (MC_496 L xs).2.2.2 = RC_496 := mR_Rr (RR_495 L xs)
theorem II_496 (L : Nat) (xs : Nat → Int32) : ∀ i, i ≠ 0 → (MC_496 L xs).2.1 i = IC_495 i := mR_In (II_495 L xs)
theorem LL_496 (L : Nat) (xs : Nat → Int32) : ∀ i k, (MC_496 L xs).2.2.1 i k = 0 := mR_Ln (LL_495 L xs)
def MC_497 (L : Nat) (xs : Nat → Int32) : gM := nw (20, 56) (MC_496 L xs)
theorem NW_497 (L : Nat) (xs : Nat → Int32) : nw (20, 56) (MC_496 L xs) = MC_497 L xs := rfl
set_option maxRecDepth 20000 in
theorem KC_497 (L : Nat) (xs : Nat → Int32) : (MC_497 L xs).1 = (g_K0 L).take 191 := (nw_K _ (MC_496 L xs)).trans (by rw [KC_496]; rfl)
set_option maxRecDepth 20000 in
theorem LN_497 (L : Nat) (xs : Nat → Int32) : (MC_497 L xs).1.length = 191 := by rw [KC_497]; rfl
def RC_497 : Nat → Nat → Option Nat := g_row RC_496 190 (fun _ => none)
theorem RR_497 (L : Nat) (xs : Nat → Int32) : (MC_497 L xs).2.2.2 = RC_497 := nw_R (LN_496 L xs) (RR_496 L xs)
def IC_497 : Nat → Nat → Int32 := g_row IC_495 190 (fun _ => 0)
theorem II_497 (L : Nat) (xs : Nat → Int32) : ∀ i, i ≠ 0 → (MC_497 L xs).2.1 i = IC_497 i := nw_I (LN_496 L xs) (II_496 L xs)
theorem LL_497 (L : Nat) (xs : Nat → Int32) : ∀ i k, (MC_497 L xs).2.2.1 i k = 0 := nw_L (LL_496 L xs)
def MC_498 (L : Nat) (xs : Nat → Int32) : gM := mR (MC_497 L xs) 175 28 (some 190)
set_option maxRecDepth 20000 in
theorem ST_498 (L : Nat) (xs : Nat → Int32) : pR 12 (MC_497 L xs) (some 175) 28 (some 190) = some (MC_498 L xs) := pR_of (by unfold g_k; rw [KC_497]; rfl)
theorem KC_498 (L : Nat) (xs : Nat → Int32) : (MC_498 L xs).1 = (g_K0 L).take 191 := (mR_K (MC_497 L xs) _ _ _).trans (KC_497 L xs)
set_option maxRecDepth 20000 in
theorem LN_498 (L : Nat) (xs : Nat → Int32) : (MC_498 L xs).1.length = 191 := by rw [KC_498]; rfl
def RC_498 : Nat → Nat → Option Nat := g_up RC_497 175 28 (some 190)
theorem RR_498 (L : Nat) (xs : Nat → Int32) : (MC_498 L xs).2.2.2 = RC_498 := mR_Rr (RR_497 L xs)
theorem II_498 (L : Nat) (xs : Nat → Int32) : ∀ i, i ≠ 0 → (MC_498 L xs).2.1 i = IC_497 i := mR_In (II_497 L xs)
theorem LL_498 (L : Nat) (xs : Nat → Int32) : ∀ i k, (MC_498 L xs).2.2.1 i k = 0 := mR_Ln (LL_497 L xs)
def MC_499 (L : Nat) (xs : Nat → Int32) : gM := nw (20, 100) (MC_498 L xs)
theorem NW_499 (L : Nat) (xs : Nat → Int32) : nw (20, 100) (MC_498 L xs) = MC_499 L xs := rfl
set_option maxRecDepth 20000 in
theorem KC_499 (L : Nat) (xs : Nat → Int32) : (MC_499 L xs).1 = (g_K0 L).take 192 := (nw_K _ (MC_498 L xs)).trans (by rw [KC_498]; rfl)
set_option maxRecDepth 20000 in
theorem LN_499 (L : Nat) (xs : Nat → Int32) : (MC_499 L xs).1.length = 192 := by rw [KC_499]; rfl
def RC_499 : Nat → Nat → Option Nat := g_row RC_498 191 (fun _ => none)
theorem RR_499 (L : Nat) (xs : Nat → Int32) : (MC_499 L xs).2.2.2 = RC_499 := nw_R (LN_498 L xs) (RR_498 L xs)
def IC_499 : Nat → Nat → Int32 := g_row IC_497 191 (fun _ => 0)
theorem II_499 (L : Nat) (xs : Nat → Int32) : ∀ i, i ≠ 0 → (MC_499 L xs).2.1 i = IC_499 i := nw_I (LN_498 L xs) (II_498 L xs)
theorem LL_499 (L : Nat) (xs : Nat → Int32) : ∀ i k, (MC_499 L xs).2.2.1 i k = 0 := nw_L (LL_498 L xs)
def MC_500 (L : Nat) (xs : Nat → Int32) : gM := mR (MC_499 L xs) 175 30 (some 191)
set_option maxRecDepth 20000 in
theorem ST_500 (L : Nat) (xs : Nat → Int32) : pR 12 (MC_499 L xs) (some 175) 30 (some 191) = some (MC_500 L xs) := pR_of (by unfold g_k; rw [KC_499]; rfl)
theorem KC_500 (L : Nat) (xs : Nat → Int32) : (MC_500 L xs).1 = (g_K0 L).take 192 := (mR_K (MC_499 L xs) _ _ _).trans (KC_499 L xs)
set_option maxRecDepth 20000 in
theorem LN_500 (L : Nat) (xs : Nat → Int32) : (MC_500 L xs).1.length = 192 := by rw [KC_500]; rfl
def RC_500 : Nat → Nat → Option Nat := g_up RC_499 175 30 (some 191)
theorem RR_500 (L : Nat) (xs : Nat → Int32) : (MC_500 L xs).2.2.2 = RC_500 := mR_Rr (RR_499 L xs)
theorem II_500 (L : Nat) (xs : Nat → Int32) : ∀ i, i ≠ 0 → (MC_500 L xs).2.1 i = IC_499 i := mR_In (II_499 L xs)
theorem LL_500 (L : Nat) (xs : Nat → Int32) : ∀ i k, (MC_500 L xs).2.2.1 i k = 0 := mR_Ln (LL_499 L xs)
def MC_501 (L : Nat) (xs : Nat → Int32) : gM := nw (20, 100) (MC_500 L xs)
theorem NW_501 (L : Nat) (xs : Nat → Int32) : nw (20, 100) (MC_500 L xs) = MC_501 L xs := rfl
set_option maxRecDepth 20000 in
theorem KC_501 (L : Nat) (xs : Nat → Int32) : (MC_501 L xs).1 = (g_K0 L).take 193 := (nw_K _ (MC_500 L xs)).trans (by rw [KC_500]; rfl)
set_option maxRecDepth 20000 in
theorem LN_501 (L : Nat) (xs : Nat → Int32) : (MC_501 L xs).1.length = 193 := by rw [KC_501]; rfl
def RC_501 : Nat → Nat → Option Nat := g_row RC_500 192 (fun _ => none)
theorem RR_501 (L : Nat) (xs : Nat → Int32) : (MC_501 L xs).2.2.2 = RC_501 := nw_R (LN_500 L xs) (RR_500 L xs)
def IC_501 : Nat → Nat → Int32 := g_row IC_499 192 (fun _ => 0)
theorem II_501 (L : Nat) (xs : Nat → Int32) : ∀ i, i ≠ 0 → (MC_501 L xs).2.1 i = IC_501 i := nw_I (LN_500 L xs) (II_500 L xs)
theorem LL_501 (L : Nat) (xs : Nat → Int32) : ∀ i k, (MC_501 L xs).2.2.1 i k = 0 := nw_L (LL_500 L xs)
def MC_502 (L : Nat) (xs : Nat → Int32) : gM := mR (MC_501 L xs) 175 31 (some 192)
set_option maxRecDepth 20000 in
theorem ST_502 (L : Nat) (xs : Nat → Int32) : pR 12 (MC_501 L xs) (some 175) 31 (some 192) = some (MC_502 L xs) := pR_of (by unfold g_k; rw [KC_501]; rfl)
theorem KC_502 (L : Nat) (xs : Nat → Int32) : (MC_502 L xs).1 = (g_K0 L).take 193 := (mR_K (MC_501 L xs) _ _ _).trans (KC_501 L xs)
set_option maxRecDepth 20000 in
theorem LN_502 (L : Nat) (xs : Nat → Int32) : (MC_502 L xs).1.length = 193 := by rw [KC_502]; rfl
def RC_502 : Nat → Nat → Option Nat := g_up RC_501 175 31 (some 192)
theorem RR_502 (L : Nat) (xs : Nat → Int32) : (MC_502 L xs).2.2.2 = RC_502 := mR_Rr (RR_501 L xs)
theorem II_502 (L : Nat) (xs : Nat → Int32) : ∀ i, i ≠ 0 → (MC_502 L xs).2.1 i = IC_501 i := mR_In (II_501 L xs)
theorem LL_502 (L : Nat) (xs : Nat → Int32) : ∀ i k, (MC_502 L xs).2.2.1 i k = 0 := mR_Ln (LL_501 L xs)
def MC_503 (L : Nat) (xs : Nat → Int32) : gM := nw (20, 628) (MC_502 L xs)
theorem NW_503 (L : Nat) (xs : Nat → Int32) : nw (20, 628) (MC_502 L xs) = MC_503 L xs := rfl
set_option maxRecDepth 20000 in
theorem KC_503 (L : Nat) (xs : Nat → Int32) : (MC_503 L xs).1 = (g_K0 L).take 194 := (nw_K _ (MC_502 L xs)).trans (by rw [KC_502]; rfl)
set_option maxRecDepth 20000 in
theorem LN_503 (L : Nat) (xs : Nat → Int32) : (MC_503 L xs).1.length = 194 := by rw [KC_503]; rfl
def RC_503 : Nat → Nat → Option Nat := g_row RC_502 193 (fun _ => none)
theorem RR_503 (L : Nat) (xs : Nat → Int32) : (MC_503 L xs).2.2.2 = RC_503 := nw_R (LN_502 L xs) (RR_502 L xs)
def IC_503 : Nat → Nat → Int32 := g_row IC_501 193 (fun _ => 0)
theorem II_503 (L : Nat) (xs : Nat → Int32) : ∀ i, i ≠ 0 → (MC_503 L xs).2.1 i = IC_503 i := nw_I (LN_502 L xs) (II_502 L xs)
theorem LL_503 (L : Nat) (xs : Nat → Int32) : ∀ i k, (MC_503 L xs).2.2.1 i k = 0 := nw_L (LL_502 L xs)
def MC_504 (L : Nat) (xs : Nat → Int32) : gM := mR (MC_503 L xs) 175 33 (some 193)
set_option maxRecDepth 20000 in
theorem ST_504 (L : Nat) (xs : Nat → Int32) : pR 12 (MC_503 L xs) (some 175) 33 (some 193) = some (MC_504 L xs) := pR_of (by unfold g_k; rw [KC_503]; rfl)
theorem KC_504 (L : Nat) (xs : Nat → Int32) : (MC_504 L xs).1 = (g_K0 L).take 194 := (mR_K (MC_503 L xs) _ _ _).trans (KC_503 L xs)
set_option maxRecDepth 20000 in
theorem LN_504 (L : Nat) (xs : Nat → Int32) : (MC_504 L xs).1.length = 194 := by rw [KC_504]; rfl
def RC_504 : Nat → Nat → Option Nat := g_up RC_503 175 33 (some 193)
theorem RR_504 (L : Nat) (xs : Nat → Int32) : (MC_504 L xs).2.2.2 = RC_504 := mR_Rr (RR_503 L xs)
theorem II_504 (L : Nat) (xs : Nat → Int32) : ∀ i, i ≠ 0 → (MC_504 L xs).2.1 i = IC_503 i := mR_In (II_503 L xs)
theorem LL_504 (L : Nat) (xs : Nat → Int32) : ∀ i k, (MC_504 L xs).2.2.1 i k = 0 := mR_Ln (LL_503 L xs)
def MC_505 (L : Nat) (xs : Nat → Int32) : gM := nw (20, 4) (MC_504 L xs)
theorem NW_505 (L : Nat) (xs : Nat → Int32) : nw (20, 4) (MC_504 L xs) = MC_505 L xs := rfl
set_option maxRecDepth 20000 in
theorem KC_505 (L : Nat) (xs : Nat → Int32) : (MC_505 L xs).1 = (g_K0 L).take 195 := (nw_K _ (MC_504 L xs)).trans (by rw [KC_504]; rfl)
set_option maxRecDepth 20000 in
theorem LN_505 (L : Nat) (xs : Nat → Int32) : (MC_505 L xs).1.length = 195 := by rw [KC_505]; rfl
def RC_505 : Nat → Nat → Option Nat := g_row RC_504 194 (fun _ => none)
theorem RR_505 (L : Nat) (xs : Nat → Int32) : (MC_505 L xs).2.2.2 = RC_505 := nw_R (LN_504 L xs) (RR_504 L xs)
def IC_505 : Nat → Nat → Int32 := g_row IC_503 194 (fun _ => 0)
theorem II_505 (L : Nat) (xs : Nat → Int32) : ∀ i, i ≠ 0 → (MC_505 L xs).2.1 i = IC_505 i := nw_I (LN_504 L xs) (II_504 L xs)
theorem LL_505 (L : Nat) (xs : Nat → Int32) : ∀ i k, (MC_505 L xs).2.2.1 i k = 0 := nw_L (LL_504 L xs)
def MC_506 (L : Nat) (xs : Nat → Int32) : gM := mR (MC_505 L xs) 175 34 (some 194)
set_option maxRecDepth 20000 in
theorem ST_506 (L : Nat) (xs : Nat → Int32) : pR 12 (MC_505 L xs) (some 175) 34 (some 194) = some (MC_506 L xs) := pR_of (by unfold g_k; rw [KC_505]; rfl)
theorem KC_506 (L : Nat) (xs : Nat → Int32) : (MC_506 L xs).1 = (g_K0 L).take 195 := (mR_K (MC_505 L xs) _ _ _).trans (KC_505 L xs)
set_option maxRecDepth 20000 in
theorem LN_506 (L : Nat) (xs : Nat → Int32) : (MC_506 L xs).1.length = 195 := by rw [KC_506]; rfl
def RC_506 : Nat → Nat → Option Nat := g_up RC_505 175 34 (some 194)
theorem RR_506 (L : Nat) (xs : Nat → Int32) : (MC_506 L xs).2.2.2 = RC_506 := mR_Rr (RR_505 L xs)
theorem II_506 (L : Nat) (xs : Nat → Int32) : ∀ i, i ≠ 0 → (MC_506 L xs).2.1 i = IC_505 i := mR_In (II_505 L xs)
theorem LL_506 (L : Nat) (xs : Nat → Int32) : ∀ i k, (MC_506 L xs).2.2.1 i k = 0 := mR_Ln (LL_505 L xs)
def MC_507 (L : Nat) (xs : Nat → Int32) : gM := nw (20, 4) (MC_506 L xs)
theorem NW_507 (L : Nat) (xs : Nat → Int32) : nw (20, 4) (MC_506 L xs) = MC_507 L xs := rfl
set_option maxRecDepth 20000 in
theorem KC_507 (L : Nat) (xs : Nat → Int32) : (MC_507 L xs).1 = (g_K0 L).take 196 := (nw_K _ (MC_506 L xs)).trans (by rw [KC_506]; rfl)
set_option maxRecDepth 20000 in
theorem LN_507 (L : Nat) (xs : Nat → Int32) : (MC_507 L xs).1.length = 196 := by rw [KC_507]; rfl
def RC_507 : Nat → Nat → Option Nat := g_row RC_506 195 (fun _ => none)
theorem RR_507 (L : Nat) (xs : Nat → Int32) : (MC_507 L xs).2.2.2 = RC_507 := nw_R (LN_506 L xs) (RR_506 L xs)
def IC_507 : Nat → Nat → Int32 := g_row IC_505 195 (fun _ => 0)
theorem II_507 (L : Nat) (xs : Nat → Int32) : ∀ i, i ≠ 0 → (MC_507 L xs).2.1 i = IC_507 i := nw_I (LN_506 L xs) (II_506 L xs)
theorem LL_507 (L : Nat) (xs : Nat → Int32) : ∀ i k, (MC_507 L xs).2.2.1 i k = 0 := nw_L (LL_506 L xs)
def MC_508 (L : Nat) (xs : Nat → Int32) : gM := mR (MC_507 L xs) 175 35 (some 195)
set_option maxRecDepth 20000 in
theorem ST_508 (L : Nat) (xs : Nat → Int32) : pR 12 (MC_507 L xs) (some 175) 35 (some 195) = some (MC_508 L xs) := pR_of (by unfold g_k; rw [KC_507]; rfl)
theorem KC_508 (L : Nat) (xs : Nat → Int32) : (MC_508 L xs).1 = (g_K0 L).take 196 := (mR_K (MC_507 L xs) _ _ _).trans (KC_507 L xs)
set_option maxRecDepth 20000 in
theorem LN_508 (L : Nat) (xs : Nat → Int32) : (MC_508 L xs).1.length = 196 := by rw [KC_508]; rfl
def RC_508 : Nat → Nat → Option Nat := g_up RC_507 175 35 (some 195)
theorem RR_508 (L : Nat) (xs : Nat → Int32) : (MC_508 L xs).2.2.2 = RC_508 := mR_Rr (RR_507 L xs)
theorem II_508 (L : Nat) (xs : Nat → Int32) : ∀ i, i ≠ 0 → (MC_508 L xs).2.1 i = IC_507 i := mR_In (II_507 L xs)
theorem LL_508 (L : Nat) (xs : Nat → Int32) : ∀ i k, (MC_508 L xs).2.2.1 i k = 0 := mR_Ln (LL_507 L xs)
def MC_509 (L : Nat) (xs : Nat → Int32) : gM := nw (23, 4) (MC_508 L xs)
theorem NW_509 (L : Nat) (xs : Nat → Int32) : nw (23, 4) (MC_508 L xs) = MC_509 L xs := rfl
set_option maxRecDepth 20000 in
theorem KC_509 (L : Nat) (xs : Nat → Int32) : (MC_509 L xs).1 = (g_K0 L).take 197 := (nw_K _ (MC_508 L xs)).trans (by rw [KC_508]; rfl)
set_option maxRecDepth 20000 in
theorem LN_509 (L : Nat) (xs : Nat → Int32) : (MC_509 L xs).1.length = 197 := by rw [KC_509]; rfl
def RC_509 : Nat → Nat → Option Nat := g_row RC_508 196 (fun _ => none)
theorem RR_509 (L : Nat) (xs : Nat → Int32) : (MC_509 L xs).2.2.2 = RC_509 := nw_R (LN_508 L xs) (RR_508 L xs)
def IC_509 : Nat → Nat → Int32 := g_row IC_507 196 (fun _ => 0)
theorem II_509 (L : Nat) (xs : Nat → Int32) : ∀ i, i ≠ 0 → (MC_509 L xs).2.1 i = IC_509 i := nw_I (LN_508 L xs) (II_508 L xs)
theorem LL_509 (L : Nat) (xs : Nat → Int32) : ∀ i k, (MC_509 L xs).2.2.1 i k = 0 := nw_L (LL_508 L xs)
def MC_510 (L : Nat) (xs : Nat → Int32) : gM := mR (MC_509 L xs) 175 36 (some 196)
set_option maxRecDepth 20000 in
theorem ST_510 (L : Nat) (xs : Nat → Int32) : pR 12 (MC_509 L xs) (some 175) 36 (some 196) = some (MC_510 L xs) := pR_of (by unfold g_k; rw [KC_509]; rfl)
theorem KC_510 (L : Nat) (xs : Nat → Int32) : (MC_510 L xs).1 = (g_K0 L).take 197 := (mR_K (MC_509 L xs) _ _ _).trans (KC_509 L xs)
set_option maxRecDepth 20000 in
theorem LN_510 (L : Nat) (xs : Nat → Int32) : (MC_510 L xs).1.length = 197 := by rw [KC_510]; rfl
def RC_510 : Nat → Nat → Option Nat := g_up RC_509 175 36 (some 196)
theorem RR_510 (L : Nat) (xs : Nat → Int32) : (MC_510 L xs).2.2.2 = RC_510 := mR_Rr (RR_509 L xs)
theorem II_510 (L : Nat) (xs : Nat → Int32) : ∀ i, i ≠ 0 → (MC_510 L xs).2.1 i = IC_509 i := mR_In (II_509 L xs)
theorem LL_510 (L : Nat) (xs : Nat → Int32) : ∀ i k, (MC_510 L xs).2.2.1 i k = 0 := mR_Ln (LL_509 L xs)
theorem CT_0 (L : Nat) (xs : Nat → Int32) : F_X5_init 6 (MC_7 L xs) = some (MC_12 L xs) := by
  delta F_X5_init F_X5_init_b0
  refine g_bs (a := MC_9 L xs) (by rw [LN_7]; exact ST_9 L xs) ?_
  refine g_bs (a := MC_11 L xs) (by rw [LN_9]; exact ST_11 L xs) ?_
  refine g_bs (a := MC_12 L xs) (ST_12 L xs) ?_
  exact rfl
theorem CT_1 (L : Nat) (xs : Nat → Int32) : F_X10_init 4 (MC_4 L xs) = some (MC_13 L xs) := by
  delta F_X10_init F_X10_init_b0
  refine g_bs (a := MC_6 L xs) (by rw [LN_4]; exact ST_6 L xs) ?_
  refine g_bs (a := MC_12 L xs) (by rw [LN_6]; exact CT_0 L xs) ?_
  refine g_bs (a := MC_13 L xs) (by rw [LN_6]; exact ST_13 L xs) ?_
  exact rfl
theorem CT_2 (L : Nat) (xs : Nat → Int32) : F_X8_init 9 (MC_15 L xs) = some (MC_26 L xs) := by
  delta F_X8_init F_X8_init_b0
  refine g_bs (a := MC_17 L xs) (by rw [LN_15]; exact ST_17 L xs) ?_
  refine g_bs (a := MC_19 L xs) (by rw [LN_17]; exact ST_19 L xs) ?_
  refine g_bs (a := MC_21 L xs) (by rw [LN_19]; exact ST_21 L xs) ?_
  refine g_bs (a := MC_23 L xs) (by rw [LN_21]; exact ST_23 L xs) ?_
  refine g_bs (a := MC_24 L xs) (ST_24 L xs) ?_
  refine g_bs (a := MC_25 L xs) (ST_25 L xs) ?_
  refine g_bs (a := MC_26 L xs) (ST_26 L xs) ?_
  exact rfl
theorem CT_3 (L : Nat) (xs : Nat → Int32) : F_X8_init 14 (MC_28 L xs) = some (MC_39 L xs) := by
  delta F_X8_init F_X8_init_b0
  refine g_bs (a := MC_30 L xs) (by rw [LN_28]; exact ST_30 L xs) ?_
  refine g_bs (a := MC_32 L xs) (by rw [LN_30]; exact ST_32 L xs) ?_
  refine g_bs (a := MC_34 L xs) (by rw [LN_32]; exact ST_34 L xs) ?_
  refine g_bs (a := MC_36 L xs) (by rw [LN_34]; exact ST_36 L xs) ?_
  refine g_bs (a := MC_37 L xs) (ST_37 L xs) ?_
  refine g_bs (a := MC_38 L xs) (ST_38 L xs) ?_
  refine g_bs (a := MC_39 L xs) (ST_39 L xs) ?_
  exact rfl
theorem CT_4 (L : Nat) (xs : Nat → Int32) : F_X8_init 21 (MC_46 L xs) = some (MC_57 L xs) := by
  delta F_X8_init F_X8_init_b0
  refine g_bs (a := MC_48 L xs) (by rw [LN_46]; exact ST_48 L xs) ?_
  refine g_bs (a := MC_50 L xs) (by rw [LN_48]; exact ST_50 L xs) ?_
  refine g_bs (a := MC_52 L xs) (by rw [LN_50]; exact ST_52 L xs) ?_
  refine g_bs (a := MC_54 L xs) (by rw [LN_52]; exact ST_54 L xs) ?_
  refine g_bs (a := MC_55 L xs) (ST_55 L xs) ?_
  refine g_bs (a := MC_56 L xs) (ST_56 L xs) ?_
  refine g_bs (a := MC_57 L xs) (ST_57 L xs) ?_
  exact rfl
theorem CT_5 (L : Nat) (xs : Nat → Int32) : F_X8_init 26 (MC_59 L xs) = some (MC_70 L xs) := by
  delta F_X8_init F_X8_init_b0
  refine g_bs (a := MC_61 L xs) (by rw [LN_59]; exact ST_61 L xs) ?_
  refine g_bs (a := MC_63 L xs) (by rw [LN_61]; exact ST_63 L xs) ?_
  refine g_bs (a := MC_65 L xs) (by rw [LN_63]; exact ST_65 L xs) ?_
  refine g_bs (a := MC_67 L xs) (by rw [LN_65]; exact ST_67 L xs) ?_
  refine g_bs (a := MC_68 L xs) (ST_68 L xs) ?_
  refine g_bs (a := MC_69 L xs) (ST_69 L xs) ?_
  refine g_bs (a := MC_70 L xs) (ST_70 L xs) ?_
  exact rfl
theorem CT_6 (L : Nat) (xs : Nat → Int32) : F_X8_init 31 (MC_72 L xs) = some (MC_83 L xs) := by
  delta F_X8_init F_X8_init_b0
  refine g_bs (a := MC_74 L xs) (by rw [LN_72]; exact ST_74 L xs) ?_
  refine g_bs (a := MC_76 L xs) (by rw [LN_74]; exact ST_76 L xs) ?_
  refine g_bs (a := MC_78 L xs) (by rw [LN_76]; exact ST_78 L xs) ?_
  refine g_bs (a := MC_80 L xs) (by rw [LN_78]; exact ST_80 L xs) ?_
  refine g_bs (a := MC_81 L xs) (ST_81 L xs) ?_
  refine g_bs (a := MC_82 L xs) (ST_82 L xs) ?_
  refine g_bs (a := MC_83 L xs) (ST_83 L xs) ?_
  exact rfl
theorem CT_7 (L : Nat) (xs : Nat → Int32) : F_X8_init 36 (MC_85 L xs) = some (MC_96 L xs) := by
  delta F_X8_init F_X8_init_b0
  refine g_bs (a := MC_87 L xs) (by rw [LN_85]; exact ST_87 L xs) ?_
  refine g_bs (a := MC_89 L xs) (by rw [LN_87]; exact ST_89 L xs) ?_
  refine g_bs (a := MC_91 L xs) (by rw [LN_89]; exact ST_91 L xs) ?_
  refine g_bs (a := MC_93 L xs) (by rw [LN_91]; exact ST_93 L xs) ?_
  refine g_bs (a := MC_94 L xs) (ST_94 L xs) ?_
  refine g_bs (a := MC_95 L xs) (ST_95 L xs) ?_
  refine g_bs (a := MC_96 L xs) (ST_96 L xs) ?_
  exact rfl
theorem CT_8 (L : Nat) (xs : Nat → Int32) : F_X8_init 41 (MC_98 L xs) = some (MC_109 L xs) := by
  delta F_X8_init F_X8_init_b0
  refine g_bs (a := MC_100 L xs) (by rw [LN_98]; exact ST_100 L xs) ?_
  refine g_bs (a := MC_102 L xs) (by rw [LN_100]; exact ST_102 L xs) ?_
  refine g_bs (a := MC_104 L xs) (by rw [LN_102]; exact ST_104 L xs) ?_
  refine g_bs (a := MC_106 L xs) (by rw [LN_104]; exact ST_106 L xs) ?_
  refine g_bs (a := MC_107 L xs) (ST_107 L xs) ?_
  refine g_bs (a := MC_108 L xs) (ST_108 L xs) ?_
  refine g_bs (a := MC_109 L xs) (ST_109 L xs) ?_
  exact rfl
theorem CT_9 (L : Nat) (xs : Nat → Int32) : F_X8_init 46 (MC_111 L xs) = some (MC_122 L xs) := by
  delta F_X8_init F_X8_init_b0
  refine g_bs (a := MC_113 L xs) (by rw [LN_111]; exact ST_113 L xs) ?_
  refine g_bs (a := MC_115 L xs) (by rw [LN_113]; exact ST_115 L xs) ?_
  refine g_bs (a := MC_117 L xs) (by rw [LN_115]; exact ST_117 L xs) ?_
  refine g_bs (a := MC_119 L xs) (by rw [LN_117]; exact ST_119 L xs) ?_
  refine g_bs (a := MC_120 L xs) (ST_120 L xs) ?_
  refine g_bs (a := MC_121 L xs) (ST_121 L xs) ?_
  refine g_bs (a := MC_122 L xs) (ST_122 L xs) ?_
  exact rfl
theorem CT_10 (L : Nat) (xs : Nat → Int32) : F_X8_init 51 (MC_124 L xs) = some (MC_135 L xs) := by
  delta F_X8_init F_X8_init_b0
  refine g_bs (a := MC_126 L xs) (by rw [LN_124]; exact ST_126 L xs) ?_
  refine g_bs (a := MC_128 L xs) (by rw [LN_126]; exact ST_128 L xs) ?_
  refine g_bs (a := MC_130 L xs) (by rw [LN_128]; exact ST_130 L xs) ?_
  refine g_bs (a := MC_132 L xs) (by rw [LN_130]; exact ST_132 L xs) ?_
  refine g_bs (a := MC_133 L xs) (ST_133 L xs) ?_
  refine g_bs (a := MC_134 L xs) (ST_134 L xs) ?_
  refine g_bs (a := MC_135 L xs) (ST_135 L xs) ?_
  exact rfl
theorem CT_11 (L : Nat) (xs : Nat → Int32) : F_X8_init 56 (MC_137 L xs) = some (MC_148 L xs) := by
  delta F_X8_init F_X8_init_b0
  refine g_bs (a := MC_139 L xs) (by rw [LN_137]; exact ST_139 L xs) ?_
  refine g_bs (a := MC_141 L xs) (by rw [LN_139]; exact ST_141 L xs) ?_
  refine g_bs (a := MC_143 L xs) (by rw [LN_141]; exact ST_143 L xs) ?_
  refine g_bs (a := MC_145 L xs) (by rw [LN_143]; exact ST_145 L xs) ?_
  refine g_bs (a := MC_146 L xs) (ST_146 L xs) ?_
  refine g_bs (a := MC_147 L xs) (ST_147 L xs) ?_
  refine g_bs (a := MC_148 L xs) (ST_148 L xs) ?_
  exact rfl
theorem CT_12 (L : Nat) (xs : Nat → Int32) : F_X8_init 61 (MC_150 L xs) = some (MC_161 L xs) := by
  delta F_X8_init F_X8_init_b0
  refine g_bs (a := MC_152 L xs) (by rw [LN_150]; exact ST_152 L xs) ?_
  refine g_bs (a := MC_154 L xs) (by rw [LN_152]; exact ST_154 L xs) ?_
  refine g_bs (a := MC_156 L xs) (by rw [LN_154]; exact ST_156 L xs) ?_
  refine g_bs (a := MC_158 L xs) (by rw [LN_156]; exact ST_158 L xs) ?_
  refine g_bs (a := MC_159 L xs) (ST_159 L xs) ?_
  refine g_bs (a := MC_160 L xs) (ST_160 L xs) ?_
  refine g_bs (a := MC_161 L xs) (ST_161 L xs) ?_
  exact rfl
theorem CT_13 (L : Nat) (xs : Nat → Int32) : F_X8_init 66 (MC_163 L xs) = some (MC_174 L xs) := by
  delta F_X8_init F_X8_init_b0
  refine g_bs (a := MC_165 L xs) (by rw [LN_163]; exact ST_165 L xs) ?_
  refine g_bs (a := MC_167 L xs) (by rw [LN_165]; exact ST_167 L xs) ?_
  refine g_bs (a := MC_169 L xs) (by rw [LN_167]; exact ST_169 L xs) ?_
  refine g_bs (a := MC_171 L xs) (by rw [LN_169]; exact ST_171 L xs) ?_
  refine g_bs (a := MC_172 L xs) (ST_172 L xs) ?_
  refine g_bs (a := MC_173 L xs) (ST_173 L xs) ?_
  refine g_bs (a := MC_174 L xs) (ST_174 L xs) ?_
  exact rfl
theorem CT_14 (L : Nat) (xs : Nat → Int32) : F_X8_init 71 (MC_176 L xs) = some (MC_187 L xs) := by
  delta F_X8_init F_X8_init_b0
  refine g_bs (a := MC_178 L xs) (by rw [LN_176]; exact ST_178 L xs) ?_
  refine g_bs (a := MC_180 L xs) (by rw [LN_178]; exact ST_180 L xs) ?_
  refine g_bs (a := MC_182 L xs) (by rw [LN_180]; exact ST_182 L xs) ?_
  refine g_bs (a := MC_184 L xs) (by rw [LN_182]; exact ST_184 L xs) ?_
  refine g_bs (a := MC_185 L xs) (ST_185 L xs) ?_
  refine g_bs (a := MC_186 L xs) (ST_186 L xs) ?_
  refine g_bs (a := MC_187 L xs) (ST_187 L xs) ?_
  exact rfl
theorem CT_15 (L : Nat) (xs : Nat → Int32) : F_X8_init 76 (MC_189 L xs) = some (MC_200 L xs) := by
  delta F_X8_init F_X8_init_b0
  refine g_bs (a := MC_191 L xs) (by rw [LN_189]; exact ST_191 L xs) ?_
  refine g_bs (a := MC_193 L xs) (by rw [LN_191]; exact ST_193 L xs) ?_
  refine g_bs (a := MC_195 L xs) (by rw [LN_193]; exact ST_195 L xs) ?_
  refine g_bs (a := MC_197 L xs) (by rw [LN_195]; exact ST_197 L xs) ?_
  refine g_bs (a := MC_198 L xs) (ST_198 L xs) ?_
  refine g_bs (a := MC_199 L xs) (ST_199 L xs) ?_
  refine g_bs (a := MC_200 L xs) (ST_200 L xs) ?_
  exact rfl
theorem CT_16 (L : Nat) (xs : Nat → Int32) : F_X8_init 81 (MC_202 L xs) = some (MC_213 L xs) := by
  delta F_X8_init F_X8_init_b0
  refine g_bs (a := MC_204 L xs) (by rw [LN_202]; exact ST_204 L xs) ?_
  refine g_bs (a := MC_206 L xs) (by rw [LN_204]; exact ST_206 L xs) ?_
  refine g_bs (a := MC_208 L xs) (by rw [LN_206]; exact ST_208 L xs) ?_
  refine g_bs (a := MC_210 L xs) (by rw [LN_208]; exact ST_210 L xs) ?_
  refine g_bs (a := MC_211 L xs) (ST_211 L xs) ?_
  refine g_bs (a := MC_212 L xs) (ST_212 L xs) ?_
  refine g_bs (a := MC_213 L xs) (ST_213 L xs) ?_
  exact rfl
theorem CT_17 (L : Nat) (xs : Nat → Int32) : F_X8_init 86 (MC_215 L xs) = some (MC_226 L xs) := by
  delta F_X8_init F_X8_init_b0
  refine g_bs (a := MC_217 L xs) (by rw [LN_215]; exact ST_217 L xs) ?_
  refine g_bs (a := MC_219 L xs) (by rw [LN_217]; exact ST_219 L xs) ?_
  refine g_bs (a := MC_221 L xs) (by rw [LN_219]; exact ST_221 L xs) ?_
  refine g_bs (a := MC_223 L xs) (by rw [LN_221]; exact ST_223 L xs) ?_
  refine g_bs (a := MC_224 L xs) (ST_224 L xs) ?_
  refine g_bs (a := MC_225 L xs) (ST_225 L xs) ?_
  refine g_bs (a := MC_226 L xs) (ST_226 L xs) ?_
  exact rfl
theorem CT_18 (L : Nat) (xs : Nat → Int32) : F_X8_init 91 (MC_228 L xs) = some (MC_239 L xs) := by
  delta F_X8_init F_X8_init_b0
  refine g_bs (a := MC_230 L xs) (by rw [LN_228]; exact ST_230 L xs) ?_
  refine g_bs (a := MC_232 L xs) (by rw [LN_230]; exact ST_232 L xs) ?_
  refine g_bs (a := MC_234 L xs) (by rw [LN_232]; exact ST_234 L xs) ?_
  refine g_bs (a := MC_236 L xs) (by rw [LN_234]; exact ST_236 L xs) ?_
  refine g_bs (a := MC_237 L xs) (ST_237 L xs) ?_
  refine g_bs (a := MC_238 L xs) (ST_238 L xs) ?_
  refine g_bs (a := MC_239 L xs) (ST_239 L xs) ?_
  exact rfl
theorem CT_19 (L : Nat) (xs : Nat → Int32) : F_X8_init 96 (MC_241 L xs) = some (MC_252 L xs) := by
  delta F_X8_init F_X8_init_b0
  refine g_bs (a := MC_243 L xs) (by rw [LN_241]; exact ST_243 L xs) ?_
  refine g_bs (a := MC_245 L xs) (by rw [LN_243]; exact ST_245 L xs) ?_
  refine g_bs (a := MC_247 L xs) (by rw [LN_245]; exact ST_247 L xs) ?_
  refine g_bs (a := MC_249 L xs) (by rw [LN_247]; exact ST_249 L xs) ?_
  refine g_bs (a := MC_250 L xs) (ST_250 L xs) ?_
  refine g_bs (a := MC_251 L xs) (ST_251 L xs) ?_
  refine g_bs (a := MC_252 L xs) (ST_252 L xs) ?_
  exact rfl
theorem CT_20 (L : Nat) (xs : Nat → Int32) : F_X8_init 101 (MC_254 L xs) = some (MC_265 L xs) := by
  delta F_X8_init F_X8_init_b0
  refine g_bs (a := MC_256 L xs) (by rw [LN_254]; exact ST_256 L xs) ?_
  refine g_bs (a := MC_258 L xs) (by rw [LN_256]; exact ST_258 L xs) ?_
  refine g_bs (a := MC_260 L xs) (by rw [LN_258]; exact ST_260 L xs) ?_
  refine g_bs (a := MC_262 L xs) (by rw [LN_260]; exact ST_262 L xs) ?_
  refine g_bs (a := MC_263 L xs) (ST_263 L xs) ?_
  refine g_bs (a := MC_264 L xs) (ST_264 L xs) ?_
  refine g_bs (a := MC_265 L xs) (ST_265 L xs) ?_
  exact rfl
theorem CT_21 (L : Nat) (xs : Nat → Int32) : F_X8_init 106 (MC_267 L xs) = some (MC_278 L xs) := by
  delta F_X8_init F_X8_init_b0
  refine g_bs (a := MC_269 L xs) (by rw [LN_267]; exact ST_269 L xs) ?_
  refine g_bs (a := MC_271 L xs) (by rw [LN_269]; exact ST_271 L xs) ?_
  refine g_bs (a := MC_273 L xs) (by rw [LN_271]; exact ST_273 L xs) ?_
  refine g_bs (a := MC_275 L xs) (by rw [LN_273]; exact ST_275 L xs) ?_
  refine g_bs (a := MC_276 L xs) (ST_276 L xs) ?_
  refine g_bs (a := MC_277 L xs) (ST_277 L xs) ?_
  refine g_bs (a := MC_278 L xs) (ST_278 L xs) ?_
  exact rfl
theorem CT_22 (L : Nat) (xs : Nat → Int32) : F_X8_init 111 (MC_280 L xs) = some (MC_291 L xs) := by
  delta F_X8_init F_X8_init_b0
  refine g_bs (a := MC_282 L xs) (by rw [LN_280]; exact ST_282 L xs) ?_
  refine g_bs (a := MC_284 L xs) (by rw [LN_282]; exact ST_284 L xs) ?_
  refine g_bs (a := MC_286 L xs) (by rw [LN_284]; exact ST_286 L xs) ?_
  refine g_bs (a := MC_288 L xs) (by rw [LN_286]; exact ST_288 L xs) ?_
  refine g_bs (a := MC_289 L xs) (ST_289 L xs) ?_
  refine g_bs (a := MC_290 L xs) (ST_290 L xs) ?_
  refine g_bs (a := MC_291 L xs) (ST_291 L xs) ?_
  exact rfl
theorem CT_23 (L : Nat) (xs : Nat → Int32) : F_X8_init 116 (MC_293 L xs) = some (MC_304 L xs) := by
  delta F_X8_init F_X8_init_b0
  refine g_bs (a := MC_295 L xs) (by rw [LN_293]; exact ST_295 L xs) ?_
  refine g_bs (a := MC_297 L xs) (by rw [LN_295]; exact ST_297 L xs) ?_
  refine g_bs (a := MC_299 L xs) (by rw [LN_297]; exact ST_299 L xs) ?_
  refine g_bs (a := MC_301 L xs) (by rw [LN_299]; exact ST_301 L xs) ?_
  refine g_bs (a := MC_302 L xs) (ST_302 L xs) ?_
  refine g_bs (a := MC_303 L xs) (ST_303 L xs) ?_
  refine g_bs (a := MC_304 L xs) (ST_304 L xs) ?_
  exact rfl
theorem CT_24 (L : Nat) (xs : Nat → Int32) : F_X4_init 19 (MC_41 L xs) = some (MC_305 L xs) := by
  delta F_X4_init
  refine g_bs (a := MC_43 L xs) (by rw [LN_41]; exact ST_43 L xs) ?_
  refine g_bs (a := MC_44 L xs) (ST_44 L xs) ?_
  refine g_bs (a := MC_45 L xs) (ST_45 L xs) ?_
  refine g_bs (a := (some 20)) (GR_1 L xs) ?_
  refine g_bs (a := MC_57 L xs) (by rw [LN_45]; exact CT_4 L xs) ?_
  refine g_bs (a := MC_58 L xs) (by rw [LN_45]; exact ST_58 L xs) ?_
  refine g_bs (a := (some 20)) (GR_2 L xs) ?_
  refine g_bs (a := MC_70 L xs) (by rw [LN_58]; exact CT_5 L xs) ?_
  refine g_bs (a := MC_71 L xs) (by rw [LN_58]; exact ST_71 L xs) ?_
  refine g_bs (a := (some 20)) (GR_3 L xs) ?_
  refine g_bs (a := MC_83 L xs) (by rw [LN_71]; exact CT_6 L xs) ?_
  refine g_bs (a := MC_84 L xs) (by rw [LN_71]; exact ST_84 L xs) ?_
  refine g_bs (a := (some 20)) (GR_4 L xs) ?_
  refine g_bs (a := MC_96 L xs) (by rw [LN_84]; exact CT_7 L xs) ?_
  refine g_bs (a := MC_97 L xs) (by rw [LN_84]; exact ST_97 L xs) ?_
  refine g_bs (a := (some 20)) (GR_5 L xs) ?_
  refine g_bs (a := MC_109 L xs) (by rw [LN_97]; exact CT_8 L xs) ?_
  refine g_bs (a := MC_110 L xs) (by rw [LN_97]; exact ST_110 L xs) ?_
  refine g_bs (a := (some 20)) (GR_6 L xs) ?_
  refine g_bs (a := MC_122 L xs) (by rw [LN_110]; exact CT_9 L xs) ?_
  refine g_bs (a := MC_123 L xs) (by rw [LN_110]; exact ST_123 L xs) ?_
  refine g_bs (a := (some 20)) (GR_7 L xs) ?_
  refine g_bs (a := MC_135 L xs) (by rw [LN_123]; exact CT_10 L xs) ?_
  refine g_bs (a := MC_136 L xs) (by rw [LN_123]; exact ST_136 L xs) ?_
  refine g_bs (a := (some 20)) (GR_8 L xs) ?_
  refine g_bs (a := MC_148 L xs) (by rw [LN_136]; exact CT_11 L xs) ?_
  refine g_bs (a := MC_149 L xs) (by rw [LN_136]; exact ST_149 L xs) ?_
  refine g_bs (a := (some 20)) (GR_9 L xs) ?_
  refine g_bs (a := MC_161 L xs) (by rw [LN_149]; exact CT_12 L xs) ?_
  refine g_bs (a := MC_162 L xs) (by rw [LN_149]; exact ST_162 L xs) ?_
  refine g_bs (a := (some 20)) (GR_10 L xs) ?_
  refine g_bs (a := MC_174 L xs) (by rw [LN_162]; exact CT_13 L xs) ?_
  refine g_bs (a := MC_175 L xs) (by rw [LN_162]; exact ST_175 L xs) ?_
  refine g_bs (a := (some 20)) (GR_11 L xs) ?_
  refine g_bs (a := MC_187 L xs) (by rw [LN_175]; exact CT_14 L xs) ?_
  refine g_bs (a := MC_188 L xs) (by rw [LN_175]; exact ST_188 L xs) ?_
  refine g_bs (a := (some 20)) (GR_12 L xs) ?_
  refine g_bs (a := MC_200 L xs) (by rw [LN_188]; exact CT_15 L xs) ?_
  refine g_bs (a := MC_201 L xs) (by rw [LN_188]; exact ST_201 L xs) ?_
  refine g_bs (a := (some 20)) (GR_13 L xs) ?_
  refine g_bs (a := MC_213 L xs) (by rw [LN_201]; exact CT_16 L xs) ?_
  refine g_bs (a := MC_214 L xs) (by rw [LN_201]; exact ST_214 L xs) ?_
  refine g_bs (a := (some 20)) (GR_14 L xs) ?_
  refine g_bs (a := MC_226 L xs) (by rw [LN_214]; exact CT_17 L xs) ?_
  refine g_bs (a := MC_227 L xs) (by rw [LN_214]; exact ST_227 L xs) ?_
  refine g_bs (a := (some 20)) (GR_15 L xs) ?_
  refine g_bs (a := MC_239 L xs) (by rw [LN_227]; exact CT_18 L xs) ?_
  refine g_bs (a := MC_240 L xs) (by rw [LN_227]; exact ST_240 L xs) ?_
  refine g_bs (a := (some 20)) (GR_16 L xs) ?_
  refine g_bs (a := MC_252 L xs) (by rw [LN_240]; exact CT_19 L xs) ?_
  refine g_bs (a := MC_253 L xs) (by rw [LN_240]; exact ST_253 L xs) ?_
  refine g_bs (a := (some 20)) (GR_17 L xs) ?_
  refine g_bs (a := MC_265 L xs) (by rw [LN_253]; exact CT_20 L xs) ?_
  refine g_bs (a := MC_266 L xs) (by rw [LN_253]; exact ST_266 L xs) ?_
  refine g_bs (a := (some 20)) (GR_18 L xs) ?_
  refine g_bs (a := MC_278 L xs) (by rw [LN_266]; exact CT_21 L xs) ?_
  refine g_bs (a := MC_279 L xs) (by rw [LN_266]; exact ST_279 L xs) ?_
  refine g_bs (a := (some 20)) (GR_19 L xs) ?_
  refine g_bs (a := MC_291 L xs) (by rw [LN_279]; exact CT_22 L xs) ?_
  refine g_bs (a := MC_292 L xs) (by rw [LN_279]; exact ST_292 L xs) ?_
  refine g_bs (a := (some 20)) (GR_20 L xs) ?_
  refine g_bs (a := MC_304 L xs) (by rw [LN_292]; exact CT_23 L xs) ?_
  refine g_bs (a := MC_305 L xs) (by rw [LN_292]; exact ST_305 L xs) ?_
  exact rfl
theorem CT_25 (L : Nat) (xs : Nat → Int32) : F_X0_init 123 (MC_311 L xs) = some (MC_314 L xs) := by
  delta F_X0_init F_X0_init_b0
  refine g_bs (a := MC_313 L xs) (by rw [LN_311]; exact ST_313 L xs) ?_
  refine g_bs (a := MC_314 L xs) (ST_314 L xs) ?_
  exact rfl
theorem CT_26 (L : Nat) (xs : Nat → Int32) : F_X1_init 125 (MC_316 L xs) = some (MC_332 L xs) := by
  delta F_X1_init F_X1_init_b0
  refine g_bs (a := MC_318 L xs) (by rw [LN_316]; exact ST_318 L xs) ?_
  refine g_bs (a := MC_320 L xs) (by rw [LN_318]; exact ST_320 L xs) ?_
  refine g_bs (a := MC_322 L xs) (by rw [LN_320]; exact ST_322 L xs) ?_
  refine g_bs (a := MC_324 L xs) (by rw [LN_322]; exact ST_324 L xs) ?_
  refine g_bs (a := MC_326 L xs) (by rw [LN_324]; exact ST_326 L xs) ?_
  refine g_bs (a := MC_327 L xs) (ST_327 L xs) ?_
  refine g_bs (a := MC_328 L xs) (ST_328 L xs) ?_
  refine g_bs (a := MC_329 L xs) (ST_329 L xs) ?_
  refine g_bs (a := MC_330 L xs) (ST_330 L xs) ?_
  refine g_bs (a := MC_331 L xs) (ST_331 L xs) ?_
  refine g_bs (a := MC_332 L xs) (ST_332 L xs) ?_
  exact rfl
theorem CT_27 (L : Nat) (xs : Nat → Int32) : F_X9_init 131 (MC_337 L xs) = some (MC_349 L xs) := by
  delta F_X9_init F_X9_init_b0
  refine g_bs (a := MC_339 L xs) (by rw [LN_337]; exact ST_339 L xs) ?_
  refine g_bs (a := MC_341 L xs) (by rw [LN_339]; exact ST_341 L xs) ?_
  refine g_bs (a := MC_343 L xs) (by rw [LN_341]; exact ST_343 L xs) ?_
  refine g_bs (a := MC_345 L xs) (by rw [LN_343]; exact ST_345 L xs) ?_
  refine g_bs (a := MC_346 L xs) (ST_346 L xs) ?_
  refine g_bs (a := MC_347 L xs) (ST_347 L xs) ?_
  refine g_bs (a := MC_348 L xs) (ST_348 L xs) ?_
  refine g_bs (a := MC_349 L xs) (ST_349 L xs) ?_
  exact rfl
theorem CT_28 (L : Nat) (xs : Nat → Int32) : F_X1_init 137 (MC_352 L xs) = some (MC_368 L xs) := by
  delta F_X1_init F_X1_init_b0
  refine g_bs (a := MC_354 L xs) (by rw [LN_352]; exact ST_354 L xs) ?_
  refine g_bs (a := MC_356 L xs) (by rw [LN_354]; exact ST_356 L xs) ?_
  refine g_bs (a := MC_358 L xs) (by rw [LN_356]; exact ST_358 L xs) ?_
  refine g_bs (a := MC_360 L xs) (by rw [LN_358]; exact ST_360 L xs) ?_
  refine g_bs (a := MC_362 L xs) (by rw [LN_360]; exact ST_362 L xs) ?_
  refine g_bs (a := MC_363 L xs) (ST_363 L xs) ?_
  refine g_bs (a := MC_364 L xs) (ST_364 L xs) ?_
  refine g_bs (a := MC_365 L xs) (ST_365 L xs) ?_
  refine g_bs (a := MC_366 L xs) (ST_366 L xs) ?_
  refine g_bs (a := MC_367 L xs) (ST_367 L xs) ?_
  refine g_bs (a := MC_368 L xs) (ST_368 L xs) ?_
  exact rfl
theorem CT_29 (L : Nat) (xs : Nat → Int32) : F_X8_init 143 (MC_370 L xs) = some (MC_381 L xs) := by
  delta F_X8_init F_X8_init_b0
  refine g_bs (a := MC_372 L xs) (by rw [LN_370]; exact ST_372 L xs) ?_
  refine g_bs (a := MC_374 L xs) (by rw [LN_372]; exact ST_374 L xs) ?_
  refine g_bs (a := MC_376 L xs) (by rw [LN_374]; exact ST_376 L xs) ?_
  refine g_bs (a := MC_378 L xs) (by rw [LN_376]; exact ST_378 L xs) ?_
  refine g_bs (a := MC_379 L xs) (ST_379 L xs) ?_
  refine g_bs (a := MC_380 L xs) (ST_380 L xs) ?_
  refine g_bs (a := MC_381 L xs) (ST_381 L xs) ?_
  exact rfl
theorem CT_30 (L : Nat) (xs : Nat → Int32) : F_X2_init 136 (some 131) (MC_351 L xs) = some (MC_383 L xs) := by
  delta F_X2_init F_X2_init_b0
  refine g_bs (a := MC_368 L xs) (by rw [LN_351]; exact CT_28 L xs) ?_
  refine g_bs (a := MC_369 L xs) (by rw [LN_351]; exact ST_369 L xs) ?_
  refine g_bs (a := MC_381 L xs) (by rw [LN_369]; exact CT_29 L xs) ?_
  refine g_bs (a := MC_382 L xs) (by rw [LN_369]; exact ST_382 L xs) ?_
  refine g_bs (a := MC_383 L xs) (ST_383 L xs) ?_
  exact rfl
theorem CT_31 (L : Nat) (xs : Nat → Int32) : F_X7_init 148 (some 131) (MC_385 L xs) = some (MC_393 L xs) := by
  delta F_X7_init F_X7_init_b0
  refine g_bs (a := MC_387 L xs) (by rw [LN_385]; exact ST_387 L xs) ?_
  refine g_bs (a := MC_389 L xs) (by rw [LN_387]; exact ST_389 L xs) ?_
  refine g_bs (a := MC_390 L xs) (ST_390 L xs) ?_
  refine g_bs (a := MC_391 L xs) (ST_391 L xs) ?_
  refine g_bs (a := MC_392 L xs) (ST_392 L xs) ?_
  refine g_bs (a := MC_393 L xs) (ST_393 L xs) ?_
  exact rfl
theorem CT_32 (L : Nat) (xs : Nat → Int32) : F_X8_init 152 (MC_396 L xs) = some (MC_407 L xs) := by
  delta F_X8_init F_X8_init_b0
  refine g_bs (a := MC_398 L xs) (by rw [LN_396]; exact ST_398 L xs) ?_
  refine g_bs (a := MC_400 L xs) (by rw [LN_398]; exact ST_400 L xs) ?_
  refine g_bs (a := MC_402 L xs) (by rw [LN_400]; exact ST_402 L xs) ?_
  refine g_bs (a := MC_404 L xs) (by rw [LN_402]; exact ST_404 L xs) ?_
  refine g_bs (a := MC_405 L xs) (ST_405 L xs) ?_
  refine g_bs (a := MC_406 L xs) (ST_406 L xs) ?_
  refine g_bs (a := MC_407 L xs) (ST_407 L xs) ?_
  exact rfl
theorem CT_33 (L : Nat) (xs : Nat → Int32) : F_X3_init 151 (MC_395 L xs) = some (MC_411 L xs) := by
  delta F_X3_init F_X3_init_b0
  refine g_bs (a := MC_407 L xs) (by rw [LN_395]; exact CT_32 L xs) ?_
  refine g_bs (a := MC_408 L xs) (by rw [LN_395]; exact ST_408 L xs) ?_
  refine g_bs (a := MC_409 L xs) (ST_409 L xs) ?_
  refine g_bs (a := MC_410 L xs) (ST_410 L xs) ?_
  refine g_bs (a := MC_411 L xs) (ST_411 L xs) ?_
  exact rfl
theorem CT_34 (L : Nat) (xs : Nat → Int32) : F_X8_init 158 (MC_414 L xs) = some (MC_425 L xs) := by
  delta F_X8_init F_X8_init_b0
  refine g_bs (a := MC_416 L xs) (by rw [LN_414]; exact ST_416 L xs) ?_
  refine g_bs (a := MC_418 L xs) (by rw [LN_416]; exact ST_418 L xs) ?_
  refine g_bs (a := MC_420 L xs) (by rw [LN_418]; exact ST_420 L xs) ?_
  refine g_bs (a := MC_422 L xs) (by rw [LN_420]; exact ST_422 L xs) ?_
  refine g_bs (a := MC_423 L xs) (ST_423 L xs) ?_
  refine g_bs (a := MC_424 L xs) (ST_424 L xs) ?_
  refine g_bs (a := MC_425 L xs) (ST_425 L xs) ?_
  exact rfl
theorem CT_35 (L : Nat) (xs : Nat → Int32) : F_X3_init 157 (MC_413 L xs) = some (MC_429 L xs) := by
  delta F_X3_init F_X3_init_b0
  refine g_bs (a := MC_425 L xs) (by rw [LN_413]; exact CT_34 L xs) ?_
  refine g_bs (a := MC_426 L xs) (by rw [LN_413]; exact ST_426 L xs) ?_
  refine g_bs (a := MC_427 L xs) (ST_427 L xs) ?_
  refine g_bs (a := MC_428 L xs) (ST_428 L xs) ?_
  refine g_bs (a := MC_429 L xs) (ST_429 L xs) ?_
  exact rfl
theorem CT_36 (L : Nat) (xs : Nat → Int32) : F_X8_init 164 (MC_432 L xs) = some (MC_443 L xs) := by
  delta F_X8_init F_X8_init_b0
  refine g_bs (a := MC_434 L xs) (by rw [LN_432]; exact ST_434 L xs) ?_
  refine g_bs (a := MC_436 L xs) (by rw [LN_434]; exact ST_436 L xs) ?_
  refine g_bs (a := MC_438 L xs) (by rw [LN_436]; exact ST_438 L xs) ?_
  refine g_bs (a := MC_440 L xs) (by rw [LN_438]; exact ST_440 L xs) ?_
  refine g_bs (a := MC_441 L xs) (ST_441 L xs) ?_
  refine g_bs (a := MC_442 L xs) (ST_442 L xs) ?_
  refine g_bs (a := MC_443 L xs) (ST_443 L xs) ?_
  exact rfl
theorem CT_37 (L : Nat) (xs : Nat → Int32) : F_X3_init 163 (MC_431 L xs) = some (MC_447 L xs) := by
  delta F_X3_init F_X3_init_b0
  refine g_bs (a := MC_443 L xs) (by rw [LN_431]; exact CT_36 L xs) ?_
  refine g_bs (a := MC_444 L xs) (by rw [LN_431]; exact ST_444 L xs) ?_
  refine g_bs (a := MC_445 L xs) (ST_445 L xs) ?_
  refine g_bs (a := MC_446 L xs) (ST_446 L xs) ?_
  refine g_bs (a := MC_447 L xs) (ST_447 L xs) ?_
  exact rfl
theorem CT_38 (L : Nat) (xs : Nat → Int32) : F_X8_init 170 (MC_450 L xs) = some (MC_461 L xs) := by
  delta F_X8_init F_X8_init_b0
  refine g_bs (a := MC_452 L xs) (by rw [LN_450]; exact ST_452 L xs) ?_
  refine g_bs (a := MC_454 L xs) (by rw [LN_452]; exact ST_454 L xs) ?_
  refine g_bs (a := MC_456 L xs) (by rw [LN_454]; exact ST_456 L xs) ?_
  refine g_bs (a := MC_458 L xs) (by rw [LN_456]; exact ST_458 L xs) ?_
  refine g_bs (a := MC_459 L xs) (ST_459 L xs) ?_
  refine g_bs (a := MC_460 L xs) (ST_460 L xs) ?_
  refine g_bs (a := MC_461 L xs) (ST_461 L xs) ?_
  exact rfl
theorem CT_39 (L : Nat) (xs : Nat → Int32) : F_X3_init 169 (MC_449 L xs) = some (MC_465 L xs) := by
  delta F_X3_init F_X3_init_b0
  refine g_bs (a := MC_461 L xs) (by rw [LN_449]; exact CT_38 L xs) ?_
  refine g_bs (a := MC_462 L xs) (by rw [LN_449]; exact ST_462 L xs) ?_
  refine g_bs (a := MC_463 L xs) (ST_463 L xs) ?_
  refine g_bs (a := MC_464 L xs) (ST_464 L xs) ?_
  refine g_bs (a := MC_465 L xs) (ST_465 L xs) ?_
  exact rfl
theorem CT_40 (L : Nat) (xs : Nat → Int32) : F_X11_init 2 (MC_1 L xs) = some (MC_466 L xs) := by
  delta F_X11_init
  refine g_bs (a := MC_3 L xs) (by rw [LN_1]; exact ST_3 L xs) ?_
  refine g_bs (a := MC_13 L xs) (by rw [LN_3]; exact CT_1 L xs) ?_
  refine g_bs (a := MC_14 L xs) (by rw [LN_3]; exact ST_14 L xs) ?_
  refine g_bs (a := MC_26 L xs) (by rw [LN_14]; exact CT_2 L xs) ?_
  refine g_bs (a := MC_27 L xs) (by rw [LN_14]; exact ST_27 L xs) ?_
  refine g_bs (a := MC_39 L xs) (by rw [LN_27]; exact CT_3 L xs) ?_
  refine g_bs (a := MC_40 L xs) (by rw [LN_27]; exact ST_40 L xs) ?_
  refine g_bs (a := MC_305 L xs) (by rw [LN_40]; exact CT_24 L xs) ?_
  refine g_bs (a := MC_306 L xs) (by rw [LN_40]; exact ST_306 L xs) ?_
  refine g_bs (a := MC_308 L xs) (by rw [LN_306]; exact ST_308 L xs) ?_
  refine g_bs (a := MC_310 L xs) (by rw [LN_308]; exact ST_310 L xs) ?_
  refine g_bs (a := MC_314 L xs) (by rw [LN_310]; exact CT_25 L xs) ?_
  refine g_bs (a := MC_315 L xs) (by rw [LN_310]; exact ST_315 L xs) ?_
  refine g_bs (a := MC_332 L xs) (by rw [LN_315]; exact CT_26 L xs) ?_
  refine g_bs (a := MC_333 L xs) (by rw [LN_315]; exact ST_333 L xs) ?_
  refine g_bs (a := MC_334 L xs) (ST_334 L xs) ?_
  refine g_bs (a := MC_335 L xs) (ST_335 L xs) ?_
  refine g_bs (a := MC_336 L xs) (ST_336 L xs) ?_
  refine g_bs (a := MC_349 L xs) (by rw [LN_336]; exact CT_27 L xs) ?_
  refine g_bs (a := MC_350 L xs) (by rw [LN_336]; exact ST_350 L xs) ?_
  refine g_bs (a := MC_383 L xs) (by rw [LN_336, LN_350]; exact CT_30 L xs) ?_
  refine g_bs (a := MC_384 L xs) (by rw [LN_350]; exact ST_384 L xs) ?_
  refine g_bs (a := MC_393 L xs) (by rw [LN_336, LN_384]; exact CT_31 L xs) ?_
  refine g_bs (a := MC_394 L xs) (by rw [LN_384]; exact ST_394 L xs) ?_
  refine g_bs (a := (some 121)) (GR_21 L xs) ?_
  refine g_bs (a := MC_411 L xs) (by rw [LN_394]; exact CT_33 L xs) ?_
  refine g_bs (a := MC_412 L xs) (by rw [LN_394]; exact ST_412 L xs) ?_
  refine g_bs (a := (some 121)) (GR_22 L xs) ?_
  refine g_bs (a := MC_429 L xs) (by rw [LN_412]; exact CT_35 L xs) ?_
  refine g_bs (a := MC_430 L xs) (by rw [LN_412]; exact ST_430 L xs) ?_
  refine g_bs (a := (some 121)) (GR_23 L xs) ?_
  refine g_bs (a := MC_447 L xs) (by rw [LN_430]; exact CT_37 L xs) ?_
  refine g_bs (a := MC_448 L xs) (by rw [LN_430]; exact ST_448 L xs) ?_
  refine g_bs (a := (some 121)) (GR_24 L xs) ?_
  refine g_bs (a := MC_465 L xs) (by rw [LN_448]; exact CT_39 L xs) ?_
  refine g_bs (a := MC_466 L xs) (by rw [LN_448]; exact ST_466 L xs) ?_
  exact rfl
theorem CT_41 (L : Nat) (xs : Nat → Int32) : F_X12_init 175 (MC_467 L xs) = some (MC_510 L xs) := by
  delta F_X12_init F_X12_init_b0
  refine g_bs (a := MC_469 L xs) (by rw [LN_467]; exact ST_469 L xs) ?_
  refine g_bs (a := MC_471 L xs) (by rw [LN_469]; exact ST_471 L xs) ?_
  refine g_bs (a := MC_473 L xs) (by rw [LN_471]; exact ST_473 L xs) ?_
  refine g_bs (a := MC_475 L xs) (by rw [LN_473]; exact ST_475 L xs) ?_
  refine g_bs (a := MC_477 L xs) (by rw [LN_475]; exact ST_477 L xs) ?_
  refine g_bs (a := MC_479 L xs) (by rw [LN_477]; exact ST_479 L xs) ?_
  refine g_bs (a := MC_481 L xs) (by rw [LN_479]; exact ST_481 L xs) ?_
  refine g_bs (a := MC_483 L xs) (by rw [LN_481]; exact ST_483 L xs) ?_
  refine g_bs (a := MC_485 L xs) (by rw [LN_483]; exact ST_485 L xs) ?_
  refine g_bs (a := MC_487 L xs) (by rw [LN_485]; exact ST_487 L xs) ?_
  refine g_bs (a := MC_488 L xs) (ST_488 L xs) ?_
  refine g_bs (a := MC_490 L xs) (by rw [LN_488]; exact ST_490 L xs) ?_
  refine g_bs (a := MC_492 L xs) (by rw [LN_490]; exact ST_492 L xs) ?_
  refine g_bs (a := MC_494 L xs) (by rw [LN_492]; exact ST_494 L xs) ?_
  refine g_bs (a := MC_496 L xs) (by rw [LN_494]; exact ST_496 L xs) ?_
  refine g_bs (a := MC_498 L xs) (by rw [LN_496]; exact ST_498 L xs) ?_
  refine g_bs (a := MC_500 L xs) (by rw [LN_498]; exact ST_500 L xs) ?_
  refine g_bs (a := MC_502 L xs) (by rw [LN_500]; exact ST_502 L xs) ?_
  refine g_bs (a := MC_504 L xs) (by rw [LN_502]; exact ST_504 L xs) ?_
  refine g_bs (a := MC_506 L xs) (by rw [LN_504]; exact ST_506 L xs) ?_
  refine g_bs (a := MC_508 L xs) (by rw [LN_506]; exact ST_508 L xs) ?_
  refine g_bs (a := MC_510 L xs) (by rw [LN_508]; exact ST_510 L xs) ?_
  exact rfl
theorem g_ctor1 (L : Nat) (xs : Nat → Int32) : F_X11_init 2 (nw (11, 0) (g_M0 L xs)) = some (MC_466 L xs) := CT_40 L xs
theorem g_ctor2 (L : Nat) (xs : Nat → Int32) : F_X12_init 175 (nw (12, 0) (MC_466 L xs)) = some (MC_510 L xs) := CT_41 L xs
def g_Mc (L : Nat) (xs : Nat → Int32) : gM := MC_510 L xs
