/-! the reference's places: the object 175, its arrays 176 to 196 -/
def y_kd (i : Nat) : Nat × Nat :=
  match i with
  | 175 => (12, 0)
  | 176 => (22, 400)
  | 177 => (20, 2400)
  | 178 => (20, 7)
  | 179 => (20, 288)
  | 180 => (20, 6)
  | 181 => (20, 157)
  | 182 => (20, 400)
  | 183 => (21, 64)
  | 184 => (21, 14)
  | 185 => (20, 157)
  | 186 => (20, 49)
  | 187 => (20, 3140)
  | 188 => (20, 157)
  | 189 => (20, 7)
  | 190 => (20, 56)
  | 191 => (20, 100)
  | 192 => (20, 100)
  | 193 => (20, 628)
  | 194 => (20, 4)
  | 195 => (20, 4)
  | 196 => (23, 4)
  | _ => (99, 0)
def y_rf (k : Nat) : Nat :=
  match k with
  | 0 => 176
  | 3 => 177
  | 4 => 178
  | 5 => 179
  | 6 => 180
  | 7 => 181
  | 15 => 182
  | 17 => 183
  | 19 => 184
  | 20 => 185
  | 23 => 186
  | 24 => 187
  | 26 => 188
  | 27 => 189
  | 28 => 190
  | 30 => 191
  | 31 => 192
  | 33 => 193
  | 34 => 194
  | 35 => 195
  | 36 => 196
  | _ => 0
def y_tS (k : Nat) : Int × Int := if k = 1 ∨ k = 2 then (0, 7) else if 11 ≤ k ∧ k ≤ 35 ∧ k % 4 = 3 then (0, 20) else if 38 ≤ k ∧ k ≤ 50 ∧ k % 2 = 0 then (0, 99) else (-2147483648, 2147483647)
def y_tO (k : Nat) : Int × Int :=
  match k with
  | 1 => (0, 400)
  | 2 => (0, 6)
  | 8 => (0, 400)
  | 11 => (0, 6)
  | 12 => (0, 60)
  | 16 => (0, 400)
  | 18 => (0, 64)
  | 21 => (-1, 5)
  | 22 => (0, 2147483647)
  | 25 => (0, 20)
  | _ => (-2147483648, 2147483647)
def y_tI (i k : Nat) : Int × Int :=
  match i with
  | 175 => y_tO k
  | 178 => (0, 400)
  | 179 => (-1, 400)
  | 180 => (0, 12)
  | 181 => y_tS k
  | 185 => y_tS k
  | 187 => y_tS (k % 157)
  | 188 => y_tS k
  | 189 => (-1, 9)
  | 193 => y_tS (k % 157)
  | 194 => (-1, 5)
  | 195 => (0, 2147483647)
  | _ => (-2147483648, 2147483647)
abbrev y_cs (i : Nat) : Prop := 175 ≤ i ∧ i ≤ 196
def y_RB (M : gM) : Prop := (∀ i, y_cs i → g_k M i = y_kd i) ∧ ∀ k, y_rf k ≠ 0 → M.2.2.2 175 k = some (y_rf k)
def y_rg (p : Int × Int) (v : Int32) : Prop := p.1 ≤ v.toInt ∧ v.toInt ≤ p.2
def y_HT (M : gM) : Prop := y_RB M ∧ (∀ i, y_cs i → ∀ k, y_rg (y_tI i k) (M.2.1 i k)) ∧ (0 ≤ (M.2.2.1 175 32).toInt ∧ (M.2.2.1 175 32).toInt < 2147483648)
/-! frames: S says which slots of 175 and which arrays may have changed -/
def y_c (i k : Nat) : Nat := if i = 175 then k else if 176 ≤ i ∧ i ≤ 196 then i - 135 else 99
def y_Fr (S : Nat) (M M' : gM) : Prop := (M'.1 = M.1 ∧ M'.2.2.2 = M.2.2.2) ∧ (∀ i k, S.testBit (y_c i k) = false → M'.2.1 i k = M.2.1 i k) ∧ (∀ i, ¬ y_cs i → M'.2.1 i = M.2.1 i ∧ M'.2.2.1 i = M.2.2.1 i)
theorem y_rf0 (S : Nat) (M : gM) : y_Fr S M M := ⟨⟨rfl, rfl⟩, fun _ _ _ => rfl, fun _ _ => ⟨rfl, rfl⟩⟩
theorem y_tr {S : Nat} {M M1 M2 : gM} (h1 : y_Fr S M M1) (h2 : y_Fr S M1 M2) : y_Fr S M M2 := ⟨⟨h2.1.1.trans h1.1.1, h2.1.2.trans h1.1.2⟩, fun i k h => (h2.2.1 i k h).trans (h1.2.1 i k h), fun i h => ⟨(h2.2.2 i h).1.trans (h1.2.2 i h).1, (h2.2.2 i h).2.trans (h1.2.2 i h).2⟩⟩
theorem y_sub {S S2 j : Nat} (h : Nat.land S S2 = S) (h2 : S2.testBit j = false) : S.testBit j = false := by
  have e : (S &&& S2).testBit j = S.testBit j := congrArg (fun z => Nat.testBit z j) h
  rw [Nat.testBit_and, h2, Bool.and_false] at e
  exact e.symm
theorem y_fl {S S2 : Nat} {M M' : gM} (h : Nat.land S S2 = S) (f : y_Fr S M M') : y_Fr S2 M M' := ⟨f.1, fun i k hk => f.2.1 i k (y_sub h hk), f.2.2⟩
theorem y_fk {S i k : Nat} {M M' : gM} (f : y_Fr S M M') (h : S.testBit (y_c i k) = false) : M'.2.1 i k = M.2.1 i k := f.2.1 i k h
theorem y_fa {S i : Nat} {M M' : gM} (f : y_Fr S M M') (hi : 176 ≤ i ∧ i ≤ 196) (h : S.testBit (i - 135) = false) (k : Nat) : M'.2.1 i k = M.2.1 i k := f.2.1 i k (by
  unfold y_c
  rw [if_neg (by omega), if_pos hi]
  exact h)
theorem y_kk {M : gM} {i : Nat} {q : Nat × Nat} (H : y_HT M) (hi : y_cs i) (hk : y_kd i = q) : g_k M i = q := (H.1.1 i hi).trans hk
theorem y_cs_of {i : Nat} {q : Nat × Nat} (hk : y_kd i = q) (hq : q.1 ≤ 23) : y_cs i := by
  by_cases h : y_cs i
  · exact h
  exfalso
  have e : y_kd i = (99, 0) := by
    unfold y_kd
    split <;> first | rfl | (exfalso; exact h ⟨Nat.le_of_ble_eq_true rfl, Nat.le_of_ble_eq_true rfl⟩)
  rw [e] at hk
  subst hk
  exact absurd hq (by decide)
theorem y_set {M M' : gM} {i k : Nat} {v : Int32} {S : Nat} (H : y_HT M) (hi : y_cs i) (h1 : M'.1 = M.1) (h4 : M'.2.2.2 = M.2.2.2) (hv : M'.2.1 i k = v) (ho : ∀ j a, j ≠ i ∨ a ≠ k → M'.2.1 j a = M.2.1 j a) (hl : M'.2.2.1 = M.2.2.1) (hr : y_rg (y_tI i k) v) (hS : S.testBit (y_c i k) = true) : y_HT M' ∧ y_Fr S M M' := by
  refine ⟨⟨⟨fun j hj => ?_, fun j hj => ?_⟩, fun j hj a => ?_, by rw [hl]; exact H.2.2⟩, ⟨h1, h4⟩, fun j a h => ho j a ?_, fun j hj => ⟨?_, by rw [hl]⟩⟩
  · rw [← H.1.1 j hj]
    unfold g_k
    rw [h1]
  · rw [h4]
    exact H.1.2 j hj
  · by_cases e : j = i ∧ a = k
    · obtain ⟨rfl, rfl⟩ := e
      rw [hv]
      exact hr
    · rw [ho j a (by by_cases e2 : j = i; exact Or.inr (fun e3 => e ⟨e2, e3⟩); exact Or.inl e2)]
      exact H.2.1 j hj a
  · by_cases e2 : j = i
    · subst e2
      refine Or.inr (fun e3 => ?_)
      subst e3
      rw [hS] at h
      cases h
    · exact Or.inl e2
  · exact funext (fun a => ho j a (Or.inl (fun e => hj (e ▸ hi))))
theorem y_up1 {f : Nat → Nat → Int32} {i k : Nat} {v : Int32} : g_up f i k v i k = v := by
  unfold g_up
  rw [if_pos rfl, if_pos rfl]
theorem y_up2 {f : Nat → Nat → Int32} {i k : Nat} {v : Int32} {j a : Nat} (h : j ≠ i ∨ a ≠ k) : g_up f i k v j a = f j a := by
  unfold g_up
  by_cases e1 : j = i
  · subst e1
    rw [if_pos rfl, if_neg (fun z => h.elim (fun y => y rfl) (fun y => y z))]
  · rw [if_neg e1]
theorem y_mI1 {M : gM} {i k : Nat} {v : Int32} : (mI M i k v).2.1 i k = v := by
  show g_up M.2.1 i k v i k = v
  exact y_up1
theorem y_mI2 {M : gM} {i k : Nat} {v : Int32} {j a : Nat} (h : j ≠ i ∨ a ≠ k) : (mI M i k v).2.1 j a = M.2.1 j a := by
  show g_up M.2.1 i k v j a = M.2.1 j a
  exact y_up2 h
/-! reads -/
theorem y_k175 {M : gM} (H : y_HT M) : g_k M 175 = (12, 0) := y_kk H (by decide) rfl
theorem y_gI {k : Nat} {lo hi : Int} {M : gM} {β : Type} {f : Int32 → Option β} {Q : β → Prop} (H : y_HT M) (ht : y_tO k = (lo, hi)) (h : ∀ v : Int32, M.2.1 175 k = v → (lo ≤ v.toInt ∧ v.toInt ≤ hi) → Ok (f v) Q) : Ok ((gI 12 M (some 175) k).bind f) Q := by
  unfold gI
  rw [Option.bind_some, if_pos (y_k175 H)]
  have h9 := H.2.1 175 (by decide) k
  rw [show y_tI 175 k = (lo, hi) from ht] at h9
  exact h _ rfl h9
theorem y_gIs {k : Nat} {M : gM} {w : Int32} {β : Type} {f : Int32 → Option β} {Q : β → Prop} (H : y_HT M) (e : M.2.1 175 k = w) (h : Ok (f w) Q) : Ok ((gI 12 M (some 175) k).bind f) Q := by
  unfold gI
  rw [Option.bind_some, if_pos (y_k175 H), Option.bind_some, e]
  exact h
theorem y_gL {k : Nat} {M : gM} {β : Type} {f : Int64 → Option β} {Q : β → Prop} (H : y_HT M) (h : ∀ v : Int64, M.2.2.1 175 k = v → Ok (f v) Q) : Ok ((gL 12 M (some 175) k).bind f) Q := by
  unfold gL
  rw [Option.bind_some, if_pos (y_k175 H)]
  exact h _ rfl
theorem y_gR {k w : Nat} {M : gM} {β : Type} {f : Option Nat → Option β} {Q : β → Prop} (H : y_HT M) (e : y_rf k = w) (hw : w ≠ 0) (h : Ok (f (some w)) Q) : Ok ((gR 12 M (some 175) k).bind f) Q := by
  unfold gR
  rw [Option.bind_some, if_pos (y_k175 H), Option.bind_some, H.1.2 k (by rw [e]; exact hw), e]
  exact h
theorem y_gO {M : gM} {β : Type} {f : Nat → Option β} {Q : β → Prop} (H : y_HT M) (h : Ok (f 175) Q) : Ok ((gO 12 M (some 175)).bind f) Q := by
  unfold gO
  rw [Option.bind_some, if_pos (y_k175 H)]
  exact h
theorem y_gC {M : gM} {β : Type} {f : Unit → Option β} {Q : β → Prop} (H : y_HT M) (h : Ok (f ()) Q) : Ok ((gC 12 M 175).bind f) Q := by
  unfold gC
  rw [if_pos (y_k175 H)]
  exact h
theorem y_aI {t i n : Nat} {j : Int32} {M : gM} {β : Type} {f : Int32 → Option β} {Q : β → Prop} (H : y_HT M) (hk : y_kd i = (t, n)) (ht : t ≤ 23) (h0 : 0 ≤ j.toInt) (h1 : j.toInt < (n : Int)) (h : ∀ v : Int32, M.2.1 i j.toNatClampNeg = v → Ok (f v) Q) : Ok ((aI t M (some i) j).bind f) Q := by
  have K := y_kk H (y_cs_of hk ht) hk
  unfold aI
  rw [Option.bind_some, if_pos ⟨by rw [K], by rw [K]; exact gin_of h0 h1⟩]
  exact h _ rfl
theorem y_aIr {t i n : Nat} {lo hi : Int} {j : Int32} {M : gM} {β : Type} {f : Int32 → Option β} {Q : β → Prop} (H : y_HT M) (hk : y_kd i = (t, n)) (ht : t ≤ 23) (h0 : 0 ≤ j.toInt) (h1 : j.toInt < (n : Int)) (hr : y_tI i j.toNatClampNeg = (lo, hi)) (h : ∀ v : Int32, M.2.1 i j.toNatClampNeg = v → (lo ≤ v.toInt ∧ v.toInt ≤ hi) → Ok (f v) Q) : Ok ((aI t M (some i) j).bind f) Q := by
  refine y_aI H hk ht h0 h1 (fun v e => h v e ?_)
  have h9 := H.2.1 i (y_cs_of hk ht) j.toNatClampNeg
  rw [hr, e] at h9
  exact h9
theorem y_aIs {t i n : Nat} {j w : Int32} {M : gM} {β : Type} {f : Int32 → Option β} {Q : β → Prop} (H : y_HT M) (hk : y_kd i = (t, n)) (ht : t ≤ 23) (h0 : 0 ≤ j.toInt) (h1 : j.toInt < (n : Int)) (e : M.2.1 i j.toNatClampNeg = w) (h : Ok (f w) Q) : Ok ((aI t M (some i) j).bind f) Q := y_aI H hk ht h0 h1 (fun v e2 => by rw [← e2, e]; exact h)
theorem y_aL {i n : Nat} {j : Int32} {M : gM} {β : Type} {f : Int64 → Option β} {Q : β → Prop} (H : y_HT M) (hk : y_kd i = (21, n)) (h0 : 0 ≤ j.toInt) (h1 : j.toInt < (n : Int)) (h : ∀ v : Int64, Ok (f v) Q) : Ok ((aL M (some i) j).bind f) Q := by
  have K := y_kk H (y_cs_of hk (Nat.le_of_ble_eq_true rfl)) hk
  unfold aL
  rw [Option.bind_some, if_pos ⟨by rw [K], by rw [K]; exact gin_of h0 h1⟩]
  exact h _
/-! writes -/
theorem y_pI {k S : Nat} {lo hi : Int} {M : gM} {v : Int32} {β : Type} {f : gM → Option β} {Q : β → Prop} (H : y_HT M) (ht : y_tO k = (lo, hi)) (hv : lo ≤ v.toInt ∧ v.toInt ≤ hi) (hS : S.testBit k = true) (h : ∀ M', y_HT M' → y_Fr S M M' → M'.2.1 175 k = v → (∀ j a, j ≠ 175 ∨ a ≠ k → M'.2.1 j a = M.2.1 j a) → M'.2.2.1 = M.2.2.1 → Ok (f M') Q) : Ok ((pI 12 M (some 175) k v).bind f) Q := by
  unfold pI
  rw [Option.bind_some, if_pos (y_k175 H)]
  have hr : y_rg (y_tI 175 k) v := by
    rw [show y_tI 175 k = (lo, hi) from ht]
    exact hv
  obtain ⟨a, b⟩ := y_set (M' := mI M 175 k v) (S := S) H (by decide) rfl rfl y_mI1 (fun j a hj => y_mI2 hj) rfl hr hS
  exact h _ a b y_mI1 (fun j a hj => y_mI2 hj) rfl
theorem y_sI {i n S : Nat} {j v : Int32} {M : gM} {β : Type} {f : gM → Option β} {Q : β → Prop} (H : y_HT M) (hk : y_kd i = (20, n)) (h0 : 0 ≤ j.toInt) (h1 : j.toInt < (n : Int)) (hr : y_rg (y_tI i j.toNatClampNeg) v) (hS : S.testBit (i - 135) = true) (h : ∀ M', y_HT M' → y_Fr S M M' → M'.2.1 i j.toNatClampNeg = v → (∀ z a, z ≠ i ∨ a ≠ j.toNatClampNeg → M'.2.1 z a = M.2.1 z a) → M'.2.2.1 = M.2.2.1 → Ok (f M') Q) : Ok ((sI M (some i) j v).bind f) Q := by
  have hc := y_cs_of hk (Nat.le_of_ble_eq_true rfl)
  have K := y_kk H hc hk
  have hc2 : 176 ≤ i ∧ i ≤ 196 := by
    rcases Nat.lt_or_ge 175 i with e | e
    · exact ⟨e, hc.2⟩
    · have : i = 175 := Nat.le_antisymm e hc.1
      subst this
      cases hk
  unfold sI
  rw [Option.bind_some, if_pos ⟨by rw [K], by rw [K]; exact gin_of h0 h1⟩]
  obtain ⟨a, b⟩ := y_set (M' := mI M i j.toNatClampNeg v) (S := S) H hc rfl rfl y_mI1 (fun j a hj => y_mI2 hj) rfl hr (by unfold y_c; rw [if_neg (by omega), if_pos hc2]; exact hS)
  exact h _ a b y_mI1 (fun j a hj => y_mI2 hj) rfl
theorem y_full {v : Int32} {p : Int × Int} (h : p = (-2147483648, 2147483647)) : y_rg p v := by
  rw [h]
  exact i_rng v
theorem y_sB {S : Nat} {j v : Int32} {M : gM} {β : Type} {f : gM → Option β} {Q : β → Prop} (H : y_HT M) (h0 : 0 ≤ j.toInt) (h1 : j.toInt < 400) (hS : S.testBit 41 = true) (h : ∀ M', y_HT M' → y_Fr S M M' → (∀ z, z ≠ 176 → ∀ a, M'.2.1 z a = M.2.1 z a) → Ok (f M') Q) : Ok ((sB M (some 176) j v).bind f) Q := by
  have K : g_k M 176 = (22, 400) := y_kk (i := 176) H (by decide) rfl
  unfold sB
  rw [Option.bind_some, if_pos ⟨by rw [K], by rw [K]; exact gin_of h0 h1⟩]
  obtain ⟨a, b⟩ := y_set (M' := mI M 176 j.toNatClampNeg v.toInt8.toInt32) (S := S) H (by decide) rfl rfl y_mI1 (fun j a hj => y_mI2 hj) rfl (y_full rfl) hS
  exact h _ a b (fun z hz a => y_mI2 (Or.inl hz))
theorem y_sZ {S : Nat} {j v : Int32} {M : gM} {β : Type} {f : gM → Option β} {Q : β → Prop} (H : y_HT M) (h0 : 0 ≤ j.toInt) (h1 : j.toInt < 4) (hv : v = 0 ∨ v = 1) (hS : S.testBit 61 = true) (h : ∀ M', y_HT M' → y_Fr S M M' → M'.2.1 196 j.toNatClampNeg = v → (∀ z a, z ≠ 196 ∨ a ≠ j.toNatClampNeg → M'.2.1 z a = M.2.1 z a) → Ok (f M') Q) : Ok ((sZ M (some 196) j v).bind f) Q := by
  have K : g_k M 196 = (23, 4) := y_kk (i := 196) H (by decide) rfl
  unfold sZ
  rw [Option.bind_some, if_pos ⟨⟨by rw [K], by rw [K]; exact gin_of h0 h1⟩, hv⟩]
  obtain ⟨a, b⟩ := y_set (M' := mI M 196 j.toNatClampNeg v) (S := S) H (by decide) rfl rfl y_mI1 (fun j a hj => y_mI2 hj) rfl (y_full rfl) hS
  exact h _ a b y_mI1 (fun j a hj => y_mI2 hj)
theorem y_setL {M M' : gM} {i k : Nat} {v : Int64} {S : Nat} (H : y_HT M) (hi : y_cs i) (hM : M' = mL M i k v) (hr : i = 175 → k = 32 → 0 ≤ v.toInt ∧ v.toInt < 2147483648) : y_HT M' ∧ y_Fr S M M' := by
  subst hM
  refine ⟨⟨H.1, H.2.1, ?_⟩, ⟨rfl, rfl⟩, fun _ _ _ => rfl, fun j hj => ⟨rfl, g_up_ne _ _ _ (fun e => hj (e ▸ hi))⟩⟩
  show 0 ≤ (g_up M.2.2.1 i k v 175 32).toInt ∧ (g_up M.2.2.1 i k v 175 32).toInt < 2147483648
  unfold g_up
  by_cases e1 : 175 = i
  · rw [if_pos e1]
    by_cases e2 : 32 = k
    · rw [if_pos e2]
      exact hr e1.symm e2.symm
    · rw [if_neg e2]
      exact H.2.2
  · rw [if_neg e1]
    exact H.2.2
theorem y_pL {k S : Nat} {M : gM} {v : Int64} {β : Type} {f : gM → Option β} {Q : β → Prop} (H : y_HT M) (hr : k = 32 → 0 ≤ v.toInt ∧ v.toInt < 2147483648) (h : ∀ M', y_HT M' → y_Fr S M M' → M'.2.1 = M.2.1 → M'.2.2.1 175 k = v → Ok (f M') Q) : Ok ((pL 12 M (some 175) k v).bind f) Q := by
  unfold pL
  rw [Option.bind_some, if_pos (y_k175 H)]
  obtain ⟨a, b⟩ := y_setL (M' := mL M 175 k v) (S := S) H (by decide) rfl (fun _ e => hr e)
  refine h _ a b rfl ?_
  show g_up M.2.2.1 175 k v 175 k = v
  unfold g_up
  rw [if_pos rfl, if_pos rfl]
theorem y_sL {i n S : Nat} {j : Int32} {v : Int64} {M : gM} {β : Type} {f : gM → Option β} {Q : β → Prop} (H : y_HT M) (hk : y_kd i = (21, n)) (h0 : 0 ≤ j.toInt) (h1 : j.toInt < (n : Int)) (h : ∀ M', y_HT M' → y_Fr S M M' → M'.2.1 = M.2.1 → Ok (f M') Q) : Ok ((sL M (some i) j v).bind f) Q := by
  have hc := y_cs_of hk (Nat.le_of_ble_eq_true rfl)
  have K := y_kk H hc hk
  unfold sL
  rw [Option.bind_some, if_pos ⟨by rw [K], by rw [K]; exact gin_of h0 h1⟩]
  obtain ⟨a, b⟩ := y_setL (M' := mL M i j.toNatClampNeg v) (S := S) H hc rfl (fun e => by subst e; cases hk)
  exact h _ a b rfl
/-! what a call owes -/
def y_PV (S : Nat) (M : gM) : gM → Prop := fun M' => y_HT M' ∧ y_Fr S M M'
def y_PI (S : Nat) (M : gM) (lo hi : Int) : Int32 × gM → Prop := fun r => (lo ≤ r.1.toInt ∧ r.1.toInt ≤ hi) ∧ (y_HT r.2 ∧ y_Fr S M r.2)
def y_PJ (S : Nat) (M : gM) : Int64 × gM → Prop := fun r => y_HT r.2 ∧ y_Fr S M r.2
theorem v_PV {S S1 : Nat} {M M1 : gM} {o : Option gM} (f : y_Fr S M M1) (h : Ok o (y_PV S1 M1)) (hS : Nat.land S1 S = S1) : Ok o (y_PV S M) := Ok_w h (fun _ z => ⟨z.1, y_tr f (y_fl hS z.2)⟩)
theorem v_PI {S S1 : Nat} {M M1 : gM} {o : Option (Int32 × gM)} {lo hi lo2 hi2 : Int} (f : y_Fr S M M1) (h : Ok o (y_PI S1 M1 lo hi)) (hS : Nat.land S1 S = S1) (h1 : lo2 ≤ lo) (h2 : hi ≤ hi2) : Ok o (y_PI S M lo2 hi2) := Ok_w h (fun _ z => ⟨⟨Int.le_trans h1 z.1.1, Int.le_trans z.1.2 h2⟩, z.2.1, y_tr f (y_fl hS z.2.2)⟩)
theorem v_PJ {S S1 : Nat} {M M1 : gM} {o : Option (Int64 × gM)} (f : y_Fr S M M1) (h : Ok o (y_PJ S1 M1)) (hS : Nat.land S1 S = S1) : Ok o (y_PJ S M) := Ok_w h (fun _ z => ⟨z.1, y_tr f (y_fl hS z.2)⟩)
theorem z_PV {S : Nat} {M M' : gM} (H : y_HT M') (f : y_Fr S M M') : Ok (some M') (y_PV S M) := Ok_s ⟨H, f⟩
theorem z_PI {S : Nat} {M M' : gM} {v : Int32} {lo hi : Int} (h : lo ≤ v.toInt ∧ v.toInt ≤ hi) (H : y_HT M') (f : y_Fr S M M') : Ok (some (v, M')) (y_PI S M lo hi) := Ok_s ⟨h, H, f⟩
theorem z_PJ {S : Nat} {M M' : gM} {v : Int64} (H : y_HT M') (f : y_Fr S M M') : Ok (some (v, M')) (y_PJ S M) := Ok_s ⟨H, f⟩
/-! rules that are read: every clause of a rule is a list of steps that leaves one number -/
def y_st (s : Int32) (d : Nat) : Option Nat :=
  if s &&& 15 = 0 then (if d < 60 then some (d + 1) else none)
  else if s &&& 15 = 1 then (if (0 ≤ (s >>> 4).toInt ∧ (s >>> 4).toInt < 14) ∧ d < 60 then some (d + 1) else none)
  else if s &&& 15 = 11 then (if 1 ≤ d then some d else none)
  else (if 2 ≤ d then some (d - 1) else none)
def y_ev (f : Nat → Int32) (a : Nat) : Nat → Option Nat
  | 0 => some 0
  | n + 1 => (y_ev f a n).bind (y_st (f (a + n)))
def y_sg (f : Nat → Int32) (x y : Int32) : Prop := (0 ≤ x.toInt ∧ x.toInt ≤ y.toInt ∧ y.toInt ≤ 400) ∧ y_ev f x.toInt.toNat (y.toInt - x.toInt).toNat = some 1
def y_sn (M : gM) (t : Nat) : Nat → Int32 := fun j => M.2.1 177 (400 * t + j)
def y_cl (M : gM) (t q : Nat) : Prop := y_sg (y_sn M t) (M.2.1 179 q) (M.2.1 179 (q + 1)) ∧ (0 ≤ (M.2.1 179 (q + 2)).toInt → y_sg (y_sn M t) (M.2.1 179 (q + 2)) (M.2.1 179 (q + 3)))
def y_W (M : gM) : Prop := ((M.2.1 175 21).toInt < (M.2.1 175 2).toInt ∧ ∀ k, k < 4 → M.2.1 196 k ≠ 0 → (M.2.1 194 k).toInt < (M.2.1 175 2).toInt) ∧
  ∀ t c : Nat, (t : Int) < (M.2.1 175 2).toInt → (c : Int) < (M.2.1 180 t).toInt → y_cl M t (48 * t + 4 * c)
/-- rules 2, force 21, sign 42, clause 44, clauses 45, imageForce 59, isMade 61 -/
def y_wb : Nat := 2 ^ 2 + 2 ^ 21 + 2 ^ 42 + 2 ^ 44 + 2 ^ 45 + 2 ^ 59 + 2 ^ 61
theorem y_dis {S T j : Nat} (h : Nat.land S T = 0) (h2 : T.testBit j = true) : S.testBit j = false := by
  have e : (S &&& T).testBit j = (0 : Nat).testBit j := congrArg (fun z => Nat.testBit z j) h
  rw [Nat.testBit_and, h2, Bool.and_true, Nat.zero_testBit] at e
  exact e
theorem y_Wf {S : Nat} {M M' : gM} (f : y_Fr S M M') (h : Nat.land S y_wb = 0) (W : y_W M) : y_W M' := by
  have e2 := y_fk (i := 175) (k := 2) f (y_dis h (by decide))
  have e21 := y_fk (i := 175) (k := 21) f (y_dis h (by decide))
  have a177 := y_fa (i := 177) f (by decide) (y_dis h (by decide))
  have a179 := y_fa (i := 179) f (by decide) (y_dis h (by decide))
  have a180 := y_fa (i := 180) f (by decide) (y_dis h (by decide))
  have a194 := y_fa (i := 194) f (by decide) (y_dis h (by decide))
  have a196 := y_fa (i := 196) f (by decide) (y_dis h (by decide))
  have es : ∀ t, y_sn M' t = y_sn M t := fun t => funext (fun j => a177 _)
  refine ⟨⟨by rw [e2, e21]; exact W.1.1, fun k hk hn => ?_⟩, fun t c ht hc => ?_⟩
  · rw [a196] at hn
    rw [a194, e2]
    exact W.1.2 k hk hn
  · rw [e2] at ht
    rw [a180] at hc
    have h9 := W.2 t c ht hc
    unfold y_cl at h9 ⊢
    rw [es, a179, a179, a179, a179]
    exact h9
theorem y_dS {k : Nat} (h : 51 ≤ k) : y_tS k = (-2147483648, 2147483647) := by
  unfold y_tS
  rw [if_neg (by omega), if_neg (by omega), if_neg (by omega)]
theorem y_ck {j : Int32} {n : Int} (h0 : 0 ≤ j.toInt) (h : j.toInt = n) : (j.toNatClampNeg : Int) = n := (i_clamp h0).trans h
theorem y_nz {v : Int32} (h : v = 0 → False) : v.toInt ≠ 0 := fun e => h (Int32.toInt_inj.mp e)
theorem y_gI2 {k : Nat} {M : gM} {w : Int32} {β : Type} {f : Int32 → Option β} {Q : β → Prop} (H : y_HT M) (e : M.2.1 175 k = w) (h : ∀ v : Int32, v = w → Ok (f v) Q) : Ok ((gI 12 M (some 175) k).bind f) Q := y_gIs H e (h w rfl)
theorem y_aI2 {t i n : Nat} {j w : Int32} {M : gM} {β : Type} {f : Int32 → Option β} {Q : β → Prop} (H : y_HT M) (hk : y_kd i = (t, n)) (ht : t ≤ 23) (h0 : 0 ≤ j.toInt) (h1 : j.toInt < (n : Int)) (e : M.2.1 i j.toNatClampNeg = w) (h : ∀ v : Int32, v = w → Ok (f v) Q) : Ok ((aI t M (some i) j).bind f) Q := y_aIs H hk ht h0 h1 e (h w rfl)
theorem y_in {i k : Nat} {lo hi : Int} {v : Int32} (ht : y_tI i k = (lo, hi)) (h : lo ≤ v.toInt ∧ v.toInt ≤ hi) : y_rg (y_tI i k) v := by
  rw [ht]
  exact h
theorem y_dj51 {p : Nat} {j : Int32} (hp : y_tI p = y_tS) (h : 51 ≤ j.toInt) : y_tI p j.toNatClampNeg = (-2147483648, 2147483647) := by
  rw [hp]
  have := i_clamp (x := j) (by omega)
  exact y_dS (by omega)
theorem y_dj38 {p : Nat} {j : Int32} {l : Int} (hp : y_tI p = y_tS) (h : 0 ≤ l ∧ l ≤ 6) (e : j.toInt = 38 + 2 * l) : y_tI p j.toNatClampNeg = (0, 99) := by
  rw [hp]
  have := i_clamp (x := j) (by omega)
  unfold y_tS
  rw [if_neg (by omega), if_neg (by omega), if_pos (by omega)]
theorem y_dj13 {p : Nat} {j : Int32} {l : Int} (hp : y_tI p = y_tS) (h : 0 ≤ l ∧ l ≤ 6) (e : j.toInt = 13 + 4 * l) : y_tI p j.toNatClampNeg = (-2147483648, 2147483647) := by
  rw [hp]
  have := i_clamp (x := j) (by omega)
  unfold y_tS
  rw [if_neg (by omega), if_neg (by omega), if_neg (by omega)]
theorem y_dj11 {p : Nat} {j : Int32} {l : Int} (hp : y_tI p = y_tS) (h : 0 ≤ l ∧ l ≤ 6) (e : j.toInt = 11 + 4 * l) : y_tI p j.toNatClampNeg = (0, 20) := by
  rw [hp]
  have := i_clamp (x := j) (by omega)
  unfold y_tS
  rw [if_neg (by omega), if_pos (by omega)]
theorem lg_ge {x y : Int64} (h : ¬ lg_cmp x y < 0) : y.toInt ≤ x.toInt := by
  unfold lg_cmp at h
  by_cases h1 : x > y
  · have := Int64.lt_iff_toInt_lt.mp h1
    omega
  · rw [if_neg h1] at h
    by_cases h2 : x = y
    · subst h2
      exact Int.le_refl _
    · rw [if_neg h2] at h
      exact absurd (by decide) h
theorem lg_le {x y : Int64} (h : ¬ 0 < lg_cmp x y) : x.toInt ≤ y.toInt := by
  unfold lg_cmp at h
  by_cases h1 : x > y
  · rw [if_pos h1] at h
    exact absurd (by decide) h
  · have h2 : ¬ y < x := h1
    rw [Int64.lt_iff_toInt_lt] at h2
    omega
theorem lg_lt {x y : Int64} (h : lg_cmp x y < 0) : x.toInt < y.toInt := by
  unfold lg_cmp at h
  by_cases h1 : x > y
  · rw [if_pos h1] at h
    exact absurd h (by decide)
  · rw [if_neg h1] at h
    by_cases h2 : x = y
    · rw [if_pos h2] at h
      exact absurd h (by decide)
    · have h3 : ¬ y < x := h1
      rw [Int64.lt_iff_toInt_lt] at h3
      have h4 : x.toInt ≠ y.toInt := fun e => h2 (Int64.toInt_inj.mp e)
      omega
theorem lg_gt {x y : Int64} (h : 0 < lg_cmp x y) : y.toInt < x.toInt := by
  unfold lg_cmp at h
  by_cases h1 : x > y
  · exact Int64.lt_iff_toInt_lt.mp h1
  · rw [if_neg h1] at h
    by_cases h2 : x = y
    · rw [if_pos h2] at h
      exact absurd h (by decide)
    · rw [if_neg h2] at h
      exact absurd h (by decide)
/-! guards -/
theorem S_X12_in {v : Int32} {a b : Int64} {lo hi : Int} {M : gM} (ha : a.toInt = lo) (hb : b.toInt = hi) : Ok (F_X12_in v.toInt64 a b M) (q_pg (lo ≤ v.toInt ∧ v.toInt ≤ hi)) := by
  delta F_X12_in F_X12_in_b0 F_X12_in_b17
  refine Ok_i (fun _ => Ok_s ⟨by decide, fun h => absurd rfl h⟩) (fun c1 => ?_)
  refine Ok_i (fun _ => Ok_s ⟨by decide, fun h => absurd rfl h⟩) (fun c2 => ?_)
  have h1 := lg_ge c1
  have h2 := lg_le c2
  rw [Int32.toInt_toInt64, ha] at h1
  rw [Int32.toInt_toInt64, hb] at h2
  exact Ok_s ⟨by decide, fun _ => ⟨h1, h2⟩⟩
theorem S_X12_in' {v : Int32} {a b : Int64} {lo hi : Int} {M : gM} (ha : a.toInt = lo) (hb : b.toInt = hi) : Ok (F_X12_in v.toInt64 a b M) (fun r => (0 ≤ r.toInt ∧ r.toInt ≤ 1) ∧ (r.toInt ≠ 0 → lo ≤ v.toInt ∧ v.toInt ≤ hi) ∧ (r.toInt = 0 → ¬ (lo ≤ v.toInt ∧ v.toInt ≤ hi))) := by
  delta F_X12_in F_X12_in_b0 F_X12_in_b17
  refine Ok_i (fun c1 => ?_) (fun c1 => ?_)
  · refine Ok_s ⟨by decide, fun h => absurd rfl h, fun _ h => ?_⟩
    have h1 := lg_lt c1
    rw [Int32.toInt_toInt64, ha] at h1
    omega
  · refine Ok_i (fun c2 => ?_) (fun c2 => ?_)
    · refine Ok_s ⟨by decide, fun h => absurd rfl h, fun _ h => ?_⟩
      have h1 := lg_gt c2
      rw [Int32.toInt_toInt64, hb] at h1
      omega
    · have h1 := lg_ge c1
      have h2 := lg_le c2
      rw [Int32.toInt_toInt64, ha] at h1
      rw [Int32.toInt_toInt64, hb] at h2
      exact Ok_s ⟨by decide, fun _ => ⟨h1, h2⟩, fun h => absurd h (by decide)⟩
theorem S_X12_isHeir {l1 : Int32} {M : gM} (H : y_HT M) : Ok (F_X12_isHeir (some 175) l1 M) (q_pg (0 ≤ l1.toInt ∧ l1.toInt ≤ 6)) := by
  delta F_X12_isHeir F_X12_isHeir_b0 F_X12_isHeir_b18
  refine Ok_i (fun c => ?_) (fun c => ?_)
  · exact Ok_s ⟨by decide, fun h => absurd rfl h⟩
  · refine y_gR (w := 185) H rfl (by decide) ?_
    refine y_aIr (lo := 0) (hi := 7) H (i := 185) (n := 157) rfl (by decide) (by decide) (by decide) rfl (fun v q e => ?_)
    refine Ok_i (fun c2 => ?_) (fun c2 => ?_)
    · exact Ok_s ⟨by decide, fun h => absurd rfl h⟩
    · have h1 := i_nlt c
      have h2 := i_nle c2
      have z : (0 : Int32).toInt = 0 := rfl
      exact Ok_s ⟨by decide, fun _ => by omega⟩
theorem S_X12_isThing {l1 : Int32} {M : gM} (H : y_HT M) : Ok (F_X12_isThing (some 175) l1 M) (q_pg (0 ≤ l1.toInt ∧ l1.toInt ≤ 6)) := by
  delta F_X12_isThing F_X12_isThing_b0 F_X12_isThing_b18
  refine Ok_i (fun c => ?_) (fun c => ?_)
  · exact Ok_s ⟨by decide, fun h => absurd rfl h⟩
  · refine y_gR (w := 185) H rfl (by decide) ?_
    refine y_aIr (lo := 0) (hi := 7) H (i := 185) (n := 157) rfl (by decide) (by decide) (by decide) rfl (fun v q e => ?_)
    refine Ok_i (fun c2 => ?_) (fun c2 => ?_)
    · exact Ok_s ⟨by decide, fun h => absurd rfl h⟩
    · have h1 := i_nlt c
      have h2 := i_nle c2
      have z : (0 : Int32).toInt = 0 := rfl
      exact Ok_s ⟨by decide, fun _ => by omega⟩
theorem S_X12_isRule {l1 : Int32} {M : gM} (H : y_HT M) : Ok (F_X12_isRule (some 175) l1 M) (q_pg (0 ≤ l1.toInt ∧ l1.toInt < (M.2.1 175 2).toInt)) := by
  delta F_X12_isRule F_X12_isRule_b0 F_X12_isRule_b16
  refine Ok_i (fun c => ?_) (fun c => ?_)
  · exact Ok_s ⟨by decide, fun h => absurd rfl h⟩
  · refine y_gI (lo := 0) (hi := 6) H rfl (fun v q e => ?_)
    refine Ok_i (fun c2 => ?_) (fun c2 => ?_)
    · exact Ok_s ⟨by decide, fun h => absurd rfl h⟩
    · have h1 := i_nlt c
      have h2 := i_nle c2
      have z : (0 : Int32).toInt = 0 := rfl
      rw [q]
      exact Ok_s ⟨by decide, fun _ => by omega⟩
theorem S_X12_thingOf1 {l1 : Int32} {M : gM} (H : y_HT M) (h : 0 ≤ l1.toInt ∧ l1.toInt ≤ 6) : Ok (F_X12_thingOf (some 175) l1 (1 : Int32) M) (q_pi 0 20) := by
  delta F_X12_thingOf F_X12_thingOf_b0
  have z1 : (1 : Int32).toInt = 1 := rfl
  have a1 := i_mulL (c := (4 : Int32)) (x := l1) (n := 4) rfl (by omega) (by omega)
  have a2 := i_cadd (c := (10 : Int32)) (x := (4 : Int32) * l1) (n := 10) rfl (by omega) (by omega)
  have a3 := i_addc (x := (10 : Int32) + (4 : Int32) * l1) (c := (1 : Int32)) z1 (by omega) (by omega)
  refine y_gR (w := 185) H rfl (by decide) ?_
  refine y_aIr (lo := 0) (hi := 20) H (i := 185) (n := 157) rfl (by decide) (by omega) (by omega) (y_dj11 (l := l1.toInt) rfl h (by omega)) (fun v q e => ?_)
  exact Ok_s e
