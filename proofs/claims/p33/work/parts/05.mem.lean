/-! the memory's own reads and writes -/
def g_k (M : gM) (i : Nat) : Nat × Nat := M.1.getD i (99, 0)
def gin (j : Int32) (n : Nat) : Bool := decide (¬ (j < 0 ∨ n ≤ j.toNatClampNeg))
theorem gin_in {j : Int32} {n : Nat} (h : gin j n = true) : vp_in j n := by
  unfold gin at h
  exact of_decide_eq_true (p := ¬ (j < 0 ∨ n ≤ j.toNatClampNeg)) h
def gI (c : Nat) (M : gM) (r : Option Nat) (k : Nat) : Option Int32 := r.bind fun i => if g_k M i = (c, 0) then some (M.2.1 i k) else none
def gL (c : Nat) (M : gM) (r : Option Nat) (k : Nat) : Option Int64 := r.bind fun i => if g_k M i = (c, 0) then some (M.2.2.1 i k) else none
def gR (c : Nat) (M : gM) (r : Option Nat) (k : Nat) : Option (Option Nat) := r.bind fun i => if g_k M i = (c, 0) then some (M.2.2.2 i k) else none
def mI (M : gM) (i k : Nat) (v : Int32) : gM := (M.1, g_up M.2.1 i k v, M.2.2.1, M.2.2.2)
def mL (M : gM) (i k : Nat) (v : Int64) : gM := (M.1, M.2.1, g_up M.2.2.1 i k v, M.2.2.2)
def mR (M : gM) (i k : Nat) (v : Option Nat) : gM := (M.1, M.2.1, M.2.2.1, g_up M.2.2.2 i k v)
def pI (c : Nat) (M : gM) (r : Option Nat) (k : Nat) (v : Int32) : Option gM := r.bind fun i => if g_k M i = (c, 0) then some (mI M i k v) else none
def pL (c : Nat) (M : gM) (r : Option Nat) (k : Nat) (v : Int64) : Option gM := r.bind fun i => if g_k M i = (c, 0) then some (mL M i k v) else none
def pR (c : Nat) (M : gM) (r : Option Nat) (k : Nat) (v : Option Nat) : Option gM := r.bind fun i => if g_k M i = (c, 0) then some (mR M i k v) else none
def aI (t : Nat) (M : gM) (r : Option Nat) (j : Int32) : Option Int32 := r.bind fun i => if (g_k M i).1 = t ∧ gin j (g_k M i).2 = true then some (M.2.1 i j.toNatClampNeg) else none
def aL (M : gM) (r : Option Nat) (j : Int32) : Option Int64 := r.bind fun i => if (g_k M i).1 = 21 ∧ gin j (g_k M i).2 = true then some (M.2.2.1 i j.toNatClampNeg) else none
def aR (t : Nat) (M : gM) (r : Option Nat) (j : Int32) : Option (Option Nat) := r.bind fun i => if (g_k M i).1 = t ∧ gin j (g_k M i).2 = true then some (M.2.2.2 i j.toNatClampNeg) else none
def sI (M : gM) (r : Option Nat) (j : Int32) (v : Int32) : Option gM := r.bind fun i => if (g_k M i).1 = 20 ∧ gin j (g_k M i).2 = true then some (mI M i j.toNatClampNeg v) else none
def sB (M : gM) (r : Option Nat) (j : Int32) (v : Int32) : Option gM := r.bind fun i => if (g_k M i).1 = 22 ∧ gin j (g_k M i).2 = true then some (mI M i j.toNatClampNeg v.toInt8.toInt32) else none
def sZ (M : gM) (r : Option Nat) (j : Int32) (v : Int32) : Option gM := r.bind fun i => if ((g_k M i).1 = 23 ∧ gin j (g_k M i).2 = true) ∧ (v = 0 ∨ v = 1) then some (mI M i j.toNatClampNeg v) else none
def sL (M : gM) (r : Option Nat) (j : Int32) (v : Int64) : Option gM := r.bind fun i => if (g_k M i).1 = 21 ∧ gin j (g_k M i).2 = true then some (mL M i j.toNatClampNeg v) else none
def g_el (t : Nat) : Nat := if t = 24 then 8 else if t = 25 then 6 else 3
def sR (t : Nat) (M : gM) (r : Option Nat) (j : Int32) (v : Option Nat) : Option gM := r.bind fun i => v.bind fun v => if ((g_k M i).1 = t ∧ gin j (g_k M i).2 = true) ∧ g_k M v = (g_el t, 0) then some (mR M i j.toNatClampNeg (some v)) else none
def aN (M : gM) (r : Option Nat) : Option Int32 := r.bind fun i => if 20 ≤ (g_k M i).1 ∧ (g_k M i).1 < 27 then some (Int32.ofNat (g_k M i).2) else none
def xI (M : gM) (r : Option Nat) (j : Int32) : Option Int32 := r.bind fun i => if (g_k M i).1 = 30 ∧ gin j (g_k M i).2 = true then some (M.2.1 i j.toNatClampNeg) else none
def xN (M : gM) (r : Option Nat) : Option Int32 := r.bind fun i => if (g_k M i).1 = 30 then some (Int32.ofNat (g_k M i).2) else none
def nw (q : Nat × Nat) (M : gM) : gM := (M.1 ++ [q], g_row M.2.1 M.1.length (fun _ => 0), g_row M.2.2.1 M.1.length (fun _ => 0), g_row M.2.2.2 M.1.length (fun _ => none))
def nwD (t b : Nat) (n : Int32) (M : gM) : Option gM := if ¬ n < 0 ∧ n.toNatClampNeg ≤ b then some (nw (t, n.toNatClampNeg) M) else none
def cpI (M : gM) (r : Option Nat) (sp : Int32) (r2 : Option Nat) (dp n : Int32) : Option gM := r.bind fun i => r2.bind fun i2 =>
  if ((g_k M i).1 = 20 ∧ (g_k M i2).1 = 20) ∧ ((¬ sp < 0 ∧ ¬ dp < 0) ∧ ¬ n < 0) ∧ (sp.toNatClampNeg + n.toNatClampNeg ≤ (g_k M i).2 ∧ dp.toNatClampNeg + n.toNatClampNeg ≤ (g_k M i2).2) then
    some (M.1, g_row M.2.1 i2 (va_cpy (M.2.1 i) (M.2.1 i2) sp.toNatClampNeg dp.toNatClampNeg n.toNatClampNeg), M.2.2.1, M.2.2.2) else none
def clI (b : Nat) (M : gM) (r : Option Nat) : Option gM := r.bind fun i => if (g_k M i).1 = 20 ∧ (g_k M i).2 ≤ b then
    some (M.1 ++ [(20, (g_k M i).2)], g_row M.2.1 M.1.length (M.2.1 i), g_row M.2.2.1 M.1.length (fun _ => 0), g_row M.2.2.2 M.1.length (fun _ => none)) else none
theorem g_k_some {M : gM} {i : Nat} {q : Nat × Nat} (h : g_k M i = q) (h9 : q.1 < 90) : M.1[i]? = some q := by
  unfold g_k at h
  rw [List.getD_eq_getElem?_getD] at h
  cases hx : M.1[i]? with
  | none => rw [hx] at h; subst h; exact absurd h9 (by simp)
  | some x => rw [hx] at h; rw [← h]; rfl
theorem g_k_at {M : gM} {i t : Nat} (h : (g_k M i).1 = t) (h9 : t < 90) : M.1[i]? = some (t, (g_k M i).2) := g_k_some (by rw [← h]) (by exact h9)
theorem g_cell_congr {B : gB} {cI : Nat → ClassId} {M M' : gM} {j : Nat} {q : Nat × Nat} (hI : M'.2.1 j = M.2.1 j) (hL : M'.2.2.1 j = M.2.2.1 j) (hR : M'.2.2.2 j = M.2.2.2 j) : g_cell B cI M j q = g_cell B cI M' j q := by
  have hf : ∀ c, g_fs B M c j = g_fs B M' c j := by
    intro c
    unfold g_fs
    congr 1
    funext k
    unfold g_sl
    rw [hI, hL, hR]
  unfold g_cell
  rw [hI, hL, hR, hf]
theorem g_Pic_set {E : gE} {D : va_G} {cI : Nat → ClassId} {M M' : gM} {H H1 : Heap} {i : Nat} {q : Nat × Nat} (hP : g_Pic E D cI M H) (hq : M.1[i]? = some q) (h9 : q.1 < 30) (h1 : M'.1 = M.1) (hI : ∀ j, j ≠ i → M'.2.1 j = M.2.1 j) (hL : ∀ j, j ≠ i → M'.2.2.1 j = M.2.2.1 j) (hR : ∀ j, j ≠ i → M'.2.2.2 j = M.2.2.2 j)
    (he : va_at D g_cl (g_ad (g_EB E) i, g_cell (g_EB E) cI M' i q) H1) (z : H1.size = H.size) (oq : ∀ a : Nat, a ≠ g_ad (g_EB E) i → H1[a]? = H[a]?) : g_Pic E D cI M' H1 := by
  have h2 := g_Pic_two hP hq h9
  obtain ⟨p1, p2, p3, p4, p5⟩ := hP
  refine ⟨by rw [z, h1]; exact p1, by rw [h1]; exact p2, by rw [hI 0 (by omega)]; exact p3, by rw [h1]; exact p4, ?_⟩
  have h3 := p5.set (g_ws_D (g_EB E) cI M) (g_ws_at h2 hq) he oq
  rw [g_ws_set h2 hq h1 rfl (fun j hj x _ => g_cell_congr (hI j hj) (hL j hj) (hR j hj))] at h3
  exact h3
theorem g_Pic_push {E : gE} {D : va_G} {cI : Nat → ClassId} {M M' : gM} {H H1 : Heap} {q : Nat × Nat} (hP : g_Pic E D cI M H) (h1 : M'.1 = M.1 ++ [q]) (hI : ∀ j, j ≠ M.1.length → M'.2.1 j = M.2.1 j) (hL : ∀ j, j ≠ M.1.length → M'.2.2.1 j = M.2.2.1 j) (hR : ∀ j, j ≠ M.1.length → M'.2.2.2 j = M.2.2.2 j)
    (he : va_at D g_cl (H.size, g_cell (g_EB E) cI M' M.1.length q) H1) (z : H1.size = H.size + 1) (o1 : ∀ a : Nat, a < H.size → H1[a]? = H[a]?) : g_Pic E D cI M' H1 := by
  have h2 := g_Pic_len hP
  obtain ⟨p1, p2, p3, p4, p5⟩ := hP
  refine ⟨by rw [z, h1, List.length_append]; show _ + 1 + 2 = _ + (_ + 1); omega, by rw [h1, List.getElem?_append_left (by omega)]; exact p2, by rw [hI 0 (by omega)]; exact p3, by rw [h1, List.getElem?_append_left (by omega)]; exact p4, ?_⟩
  have h3 : va_P D g_cl (g_ws (g_EB E) cI M ++ [(H.size, g_cell (g_EB E) cI M' M.1.length q)]) H1 := by
    refine (p5.kept (fun k x hx => o1 x.1 ((p5 k x hx).lt))).app (fun k x hx => ?_)
    have hz : k < 1 := (List.getElem?_eq_some_iff.mp hx).1
    rw [show k = 0 by omega] at hx
    cases hx
    exact he
  rw [g_ws_push h2 h1 p1 rfl (fun j hj x _ => g_cell_congr (hI j (by omega)) (hL j (by omega)) (hR j (by omega)))] at h3
  exact h3
theorem g_ad_A {E : gE} {i : Nat} (h2 : 2 ≤ i) : g_A (g_EB E) (g_ad (g_EB E) i) := by
  unfold g_A g_ad
  rw [if_neg (by omega), if_neg (by omega)]
  exact Nat.le_add_right _ _
theorem g_ad_len {E : gE} {D : va_G} {cI : Nat → ClassId} {M : gM} {H : Heap} (hP : g_Pic E D cI M H) : g_ad (g_EB E) M.1.length = H.size := by
  have h2 := g_Pic_len hP
  have h1 := hP.1
  unfold g_ad
  rw [if_neg (by omega), if_neg (by omega)]
  show E.2.2.1 + _ = _
  omega
theorem g_cell_o {B : gB} {cI : Nat → ClassId} {M : gM} {i c : Nat} {n : Nat} (hc : c < 20) : g_cell B cI M i (c, n) = .inr (c, g_fs B M c i) := by
  unfold g_cell
  rw [if_pos (show (c, n).1 < 20 from hc)]
theorem g_fs_get {B : gB} {M : gM} {c i k : Nat} (hk : k < g_N c) : (g_fs B M c i)[k]? = some (g_sl B M i k (g_ty c k)) := by
  unfold g_fs
  rw [List.getElem?_map, List.getElem?_range hk]
  rfl
theorem g_fs_len {B : gB} {M : gM} {c i : Nat} : (g_fs B M c i).length = g_N c := by simp [g_fs]
/-- a class's tables -/
def g_cok (c : Nat) : Prop := c < 20 ∧ g_cl[c]? = some (g_R c, g_T c, g_N c) ∧ (∀ w ∈ u_ws (g_R c) (g_T c) (g_N c), w ∈ g_tb) ∧ (∀ k, k < g_N c → parseFieldDescriptor (g_T c k).2.2.1 = some (g_ty c k)) ∧ (∀ a, a < g_N c → ∀ b, b < g_N c → a ≠ b → (g_T c a).2.1 ≠ (g_T c b).2.1)
/-- a field's link in the class own -/
def g_Fld (own : String) (idx c k : Nat) : Prop := g_cok c ∧ k < g_N c ∧ Cond.fieldLink own idx (g_T c k).1 (g_T c k).2.1 (g_T c k).2.2.1 ∈ g_tb
section
variable {d bc bs : Nat} {X : gX} {pc : Nat} {lv : List (Nat × gV)} {st : List gV} {M : gM} {res : Option gV × gM}
theorem GW_get {c k idx : Nat} {v : gV} {i : Nat} (hf : g_Fld X.1 idx c k) (hd : decode X.2.1 pc = .ok (.getfield idx, 3)) (hi : g_k M i = (c, 0)) (hv : ∀ B, g_sl B M i k (g_ty c k) = g_tr B v) (kk : GW d bc bs X (pc + 3) lv (v :: st) M res) : GW d bc bs X pc lv (vr (some i) :: st) M res := by
  intro E D cI p l e R s m args below meth c0 H locs cells slots Q ls C hl hP hS hB hR
  obtain ⟨⟨hc, hcl, hws, hty, hnm⟩, hk, hlink⟩ := hf
  have hq := g_k_some hi (show c < 90 by omega)
  have h2 := g_Pic_two hP hq (show c < 30 by omega)
  have he := g_ws_at (B := g_EB E) (cI := cI) h2 hq
  rw [g_cell_o hc] at he
  have hfs := g_fs_get (B := g_EB E) (M := M) (c := c) (i := i) hk
  rw [hv] at hfs
  exact va_get (D := D) (C := g_R c) (T := g_T c) (N := g_N c) C.1 C.2.1 C.2.2.2.2.1 hws C.2.2.2.1 C.2.2.2.2.2.1.1.1 hP.2.2.2.2 (i - 2) he hcl k hk (C.2.2.2.2.1 _ hlink) (fun _ h => h) hfs hd (kk E D cI p l e R s m args below meth c0 H locs cells slots Q ls C hl hP hS hB hR)
theorem GW_getI {c k idx : Nat} (hf : g_Fld X.1 idx c k) (hd : decode X.2.1 pc = .ok (.getfield idx, 3)) {r : Option Nat} {v : Int32} (hv : gI c M r k = some v) (ht : g_ty c k = .int ∨ g_ty c k = .boolean) (kk : GW d bc bs X (pc + 3) lv (vi v :: st) M res) : GW d bc bs X pc lv (vr r :: st) M res := by
  cases r with
  | none => cases hv
  | some i =>
    unfold gI at hv
    rw [Option.bind_some] at hv
    by_cases hi : g_k M i = (c, 0)
    · rw [if_pos hi] at hv
      cases hv
      exact GW_get (v := vi _) hf hd hi (fun B => by rcases ht with ht | ht <;> rw [ht] <;> rfl) kk
    · rw [if_neg hi] at hv
      cases hv
theorem GW_getL {c k idx : Nat} (hf : g_Fld X.1 idx c k) (hd : decode X.2.1 pc = .ok (.getfield idx, 3)) {r : Option Nat} {v : Int64} (hv : gL c M r k = some v) (ht : g_ty c k = .long) (kk : GW d bc bs X (pc + 3) lv (vl v :: st) M res) : GW d bc bs X pc lv (vr r :: st) M res := by
  cases r with
  | none => cases hv
  | some i =>
    unfold gL at hv
    rw [Option.bind_some] at hv
    by_cases hi : g_k M i = (c, 0)
    · rw [if_pos hi] at hv
      cases hv
      exact GW_get (v := vl _) hf hd hi (fun B => by rw [ht]; rfl) kk
    · rw [if_neg hi] at hv
      cases hv
theorem GW_getR {c k idx : Nat} (hf : g_Fld X.1 idx c k) (hd : decode X.2.1 pc = .ok (.getfield idx, 3)) {r : Option Nat} {v : Option Nat} (hv : gR c M r k = some v) (ht : (∃ n, g_ty c k = .object n) ∨ ∃ t, g_ty c k = .array t) (kk : GW d bc bs X (pc + 3) lv (vr v :: st) M res) : GW d bc bs X pc lv (vr r :: st) M res := by
  cases r with
  | none => cases hv
  | some i =>
    unfold gR at hv
    rw [Option.bind_some] at hv
    by_cases hi : g_k M i = (c, 0)
    · rw [if_pos hi] at hv
      cases hv
      exact GW_get (v := vr _) hf hd hi (fun B => by rcases ht with ⟨n, ht⟩ | ⟨n, ht⟩ <;> rw [ht] <;> rfl) kk
    · rw [if_neg hi] at hv
      cases hv
theorem GW_put {c k idx : Nat} {v : gV} {i : Nat} {M2 : gM} (hf : g_Fld X.1 idx c k) (hd : decode X.2.1 pc = .ok (.putfield idx, 3)) (hi : g_k M i = (c, 0)) (hfin : (g_T c k).2.2.2 = false ∨ (X.2.2.2.2 = true ∧ (g_T c k).1 = X.1 ∧ (g_T c k).2.2.2 = true)) (hn : ∀ B, narrow (g_ty c k) (g_tr B v) = g_tr B v ∧ fits (g_ty c k) (g_tr B v) = true)
    (h1 : M2.1 = M.1) (hI : ∀ j, j ≠ i → M2.2.1 j = M.2.1 j) (hL : ∀ j, j ≠ i → M2.2.2.1 j = M.2.2.1 j) (hR : ∀ j, j ≠ i → M2.2.2.2 j = M.2.2.2 j) (hset : ∀ B, (g_fs B M c i).set k (g_tr B v) = g_fs B M2 c i)
    (kk : GW d bc bs X (pc + 3) lv st M2 res) : GW d bc bs X pc lv (v :: vr (some i) :: st) M res := by
  intro E D cI p l e R s m args below meth c0 H locs cells slots Q ls C hl hP hS hB hRt
  obtain ⟨⟨hc, hcl, hws, hty, hnm⟩, hk, hlink⟩ := hf
  have hq := g_k_some hi (show c < 90 by omega)
  have h2 := g_Pic_two hP hq (show c < 30 by omega)
  have he := g_ws_at (B := g_EB E) (cI := cI) h2 hq
  rw [g_cell_o hc] at he
  have hK := C.2.2.2.2.2.1.1.1
  have hts := C.2.2.2.2.1
  have hap := va_apart (own := X.1) hts hws (g_ty c) hty hnm hK hcl
  obtain ⟨r, hr1, cell, q1, q2, q3, q4⟩ := hP.2.2.2.2 (i - 2) _ he
  have hr : r = (g_R c, g_T c, g_N c) := Option.some.inj (hr1.symm.trans hcl)
  subst hr
  obtain ⟨hSl, hfc, kC, hkC, hkind⟩ := hK.1 c _ hcl
  obtain ⟨cf, kf, fi, f, hfi, hsl⟩ := hSl k hk
  have hst := (u_facts hfc hkC (u_lays hts hws hk) hfi).1
  have hlay := hts _ (hws _ (u_in_lay hk))
  have hlen : k < (g_fs (g_EB E) M c i).length := by rw [g_fs_len]; exact hk
  have fin : ∀ (H1 : Heap), H1[g_ad (g_EB E) i]? = some { cell with slots := cell.slots.setIfInBounds (D.2 c k) (g_tr (g_EB E) v) } → H1.size = H.size → (∀ a : Nat, a ≠ g_ad (g_EB E) i → H1[a]? = H[a]?) → g_Pic E D cI M2 H1 := by
    intro H1 e1 e2 e3
    refine g_Pic_set hP hq (show c < 30 by omega) h1 hI hL hR ?_ e2 e3
    rw [g_cell_o hc, ← hset]
    exact ⟨_, hcl, t_OB.to (V := updV (vp_V (g_fs (g_EB E) M c i)) k (g_tr (g_EB E) v)) ⟨_, e1, q2, q3, t_set q4 hap hk (g_tr (g_EB E) v)⟩ (fun j _ => vp_updV_set hlen (g_tr (g_EB E) v) j)⟩
  have hva : ∀ i, g_tr (g_EB E) (vr (some i)) = .ref (g_ad (g_EB E) i) := fun _ => rfl
  rcases hfin with hfin | ⟨hini, hdecl, hfin⟩
  · unfold u_lay at hlay
    rw [if_neg (by rw [hfin]; decide)] at hlay
    have h6 := u_store hfc hkC hkind hlay hfi (hty k hk) (hn (g_EB E)).1 (hn (g_EB E)).2
    refine W.putK C.1 C.2.1 (f := f) ⟨C.2.2.2.1, hts _ hlink, ⟨_, _, _, hfi⟩, hst⟩ (by rw [q2]; exact h6) q1 q3 (by rw [hsl]; exact k2_hasslot (q4 k hk)) rfl rfl hd fun H1 e1 e2 e3 => ?_
    rw [hsl] at e1 ⊢
    exact kk E D cI p l e R s m args below meth c0 H1 _ cells slots Q ls C hl (fin H1 e1 e2 e3) (hS.put e2 e3 (g_ad_A h2)) hB hRt
  · unfold u_lay at hlay
    rw [if_pos hfin] at hlay
    have hcf : m.cls = cf := by
      obtain ⟨_, _, c', _, _, _, -, -, hf', -, -, -, hown2, -⟩ := Cond.laysFinal_spec hlay
      have e1 : c' = cf := by have := hfi.symm.trans hf'; simp at this; exact this.1.symm
      rw [hdecl] at hown2
      rw [← e1]; exact Option.some.inj (C.2.2.2.1.symm.trans hown2)
    have h6 := u_fits hfc hkC hkind (Or.inr hlay) hfi (hty k hk) (hn (g_EB E)).1 (hn (g_EB E)).2
    refine W.putFinK C.1 C.2.1 C.2.2.2.1 (hts _ hlink) hfi hst hcf (C.2.2.2.2.2.2.2.2 hini) (by rw [q2]; exact h6) q1 q3 (by rw [hsl]; exact k2_hasslot (q4 k hk)) rfl rfl hd fun H1 e1 e2 e3 => ?_
    rw [hsl] at e1 ⊢
    exact kk E D cI p l e R s m args below meth c0 H1 _ cells slots Q ls C hl (fin H1 e1 e2 e3) (hS.put e2 e3 (g_ad_A h2)) hB hRt
end
