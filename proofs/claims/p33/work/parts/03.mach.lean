/-! a small machine of my own: one memory for all that the run makes, at places 2, 3 .. (0: the script; 1: the one text) -/
abbrev gK : Type := List (Nat × Nat)
abbrev gM : Type := gK × (Nat → Nat → Int32) × (Nat → Nat → Int64) × (Nat → Nat → Option Nat)
abbrev gV : Type := Int32 ⊕ Int64 ⊕ Option Nat
abbrev vi (x : Int32) : gV := .inl x
abbrev vl (x : Int64) : gV := .inr (.inl x)
abbrev vr (r : Option Nat) : gV := .inr (.inr r)
abbrev gB : Type := Nat × Nat × Nat
abbrev gX : Type := String × ByteArray × Nat × Option FieldType × Bool
def g_cat : gV → Nat
  | .inl _ => 1
  | .inr (.inl _) => 2
  | .inr (.inr _) => 1
def g_ad (B : gB) (i : Nat) : Nat := if i = 0 then B.1 else if i = 1 then B.2.1 else B.2.2 + (i - 2)
def g_tr (B : gB) : gV → Value
  | .inl x => .int x
  | .inr (.inl x) => .long x
  | .inr (.inr r) => va_rf (r.map (g_ad B))
theorem g_tr_cat (B : gB) (v : gV) : (g_tr B v).category = g_cat v := by
  rcases v with x | x | r
  · rfl
  · rfl
  · cases r <;> rfl
def g_up {α : Type} (f : Nat → Nat → α) (i k : Nat) (v : α) : Nat → Nat → α := fun a b => if a = i then (if b = k then v else f a b) else f a b
def g_row {α : Type} (f : Nat → Nat → α) (i : Nat) (g : Nat → α) : Nat → Nat → α := fun a b => if a = i then g b else f a b
theorem g_up_same {α : Type} (f : Nat → Nat → α) (i k : Nat) (v : α) : g_up f i k v i = fun b => if b = k then v else f i b := by
  funext b
  simp [g_up]
theorem g_up_ne {α : Type} (f : Nat → Nat → α) {i j : Nat} (k : Nat) (v : α) (h : j ≠ i) : g_up f i k v j = f j := by
  funext b
  simp [g_up, h]
theorem g_row_same {α : Type} (f : Nat → Nat → α) (i : Nat) (g : Nat → α) : g_row f i g i = g := by
  funext b
  simp [g_row]
theorem g_row_ne {α : Type} (f : Nat → Nat → α) {i j : Nat} (g : Nat → α) (h : j ≠ i) : g_row f i g j = f j := by
  funext b
  simp [g_row, h]
def g_sl (B : gB) (M : gM) (i k : Nat) (t : FieldType) : Value := match t with
  | .long => .long (M.2.2.1 i k)
  | .object _ => va_rf ((M.2.2.2 i k).map (g_ad B))
  | .array _ => va_rf ((M.2.2.2 i k).map (g_ad B))
  | _ => .int (M.2.1 i k)
def g_fs (B : gB) (M : gM) (c i : Nat) : List Value := (List.range (g_N c)).map (fun k => g_sl B M i k (g_ty c k))
def g_cell (B : gB) (cI : Nat → ClassId) (M : gM) (i : Nat) (q : Nat × Nat) : va_E :=
  if q.1 < 20 then .inr (q.1, g_fs B M q.1 i)
  else if q.1 < 21 then .inl (cI 0, q.2, .inl (M.2.1 i))
  else if q.1 < 22 then .inl (cI 1, q.2, .inr (.inl (M.2.2.1 i)))
  else if q.1 < 23 then .inl (cI 2, q.2, .inl (M.2.1 i))
  else if q.1 < 24 then .inl (cI 3, q.2, .inl (M.2.1 i))
  else .inl (cI (q.1 - 20), q.2, .inr (.inr (.inr (.inr (fun j => (M.2.2.2 i j).map (g_ad B))))))
def g_ws (B : gB) (cI : Nat → ClassId) (M : gM) : va_W := (M.1.drop 2).mapIdx (fun j q => (B.2.2 + j, g_cell B cI M (j + 2) q))
theorem g_ws_get (B : gB) (cI : Nat → ClassId) (M : gM) (j : Nat) : (g_ws B cI M)[j]? = (M.1[j + 2]?).map (fun q => (B.2.2 + j, g_cell B cI M (j + 2) q)) := by
  unfold g_ws
  rw [List.getElem?_mapIdx, List.getElem?_drop, Nat.add_comm 2 j]
theorem g_ws_at {B : gB} {cI : Nat → ClassId} {M : gM} {i : Nat} {q : Nat × Nat} (h2 : 2 ≤ i) (h : M.1[i]? = some q) : (g_ws B cI M)[i - 2]? = some (g_ad B i, g_cell B cI M i q) := by
  rw [g_ws_get, show i - 2 + 2 = i by omega, h]
  simp [g_ad, show i ≠ 0 by omega, show i ≠ 1 by omega]
theorem g_ws_len (B : gB) (cI : Nat → ClassId) (M : gM) : (g_ws B cI M).length = M.1.length - 2 := by
  simp [g_ws]
def g_A (B : gB) : Nat → Prop := fun q => B.2.2 ≤ q
theorem g_ws_D (B : gB) (cI : Nat → ClassId) (M : gM) : va_D (g_A B) (g_ws B cI M) := by
  refine ⟨fun i j p q hi hj e => ?_, fun k q hk => ?_⟩
  · rw [g_ws_get] at hi hj
    cases h1 : M.1[i + 2]? with
    | none => rw [h1] at hi; cases hi
    | some a =>
      cases h2 : M.1[j + 2]? with
      | none => rw [h2] at hj; cases hj
      | some b =>
        rw [h1] at hi
        rw [h2] at hj
        cases hi
        cases hj
        simp at e
        omega
  · rw [g_ws_get] at hk
    cases h1 : M.1[k + 2]? with
    | none => rw [h1] at hk; cases hk
    | some a =>
      rw [h1] at hk
      cases hk
      exact Nat.le_add_right _ _
theorem g_ws_set {B : gB} {cI : Nat → ClassId} {M M' : gM} {i : Nat} {q : Nat × Nat} {e : va_E} (h2 : 2 ≤ i) (hq : M.1[i]? = some q) (h1 : M'.1 = M.1) (he : e = g_cell B cI M' i q) (ho : ∀ j, j ≠ i → ∀ q, M.1[j]? = some q → g_cell B cI M j q = g_cell B cI M' j q) : (g_ws B cI M).set (i - 2) (g_ad B i, e) = g_ws B cI M' := by
  apply List.ext_getElem?
  intro j
  have hl : i < M.1.length := (List.getElem?_eq_some_iff.mp hq).1
  by_cases hj : j = i - 2
  · subst hj
    rw [List.getElem?_set_self (by rw [g_ws_len]; omega), g_ws_at h2 (q := q) (by rw [h1]; exact hq), he]
  · rw [List.getElem?_set_ne (Ne.symm hj), g_ws_get, g_ws_get, h1]
    cases hx : M.1[j + 2]? with
    | none => rfl
    | some x =>
      show some (_, g_cell B cI M (j + 2) x) = some (_, g_cell B cI M' (j + 2) x)
      rw [ho (j + 2) (by omega) x hx]
theorem g_ws_push {B : gB} {cI : Nat → ClassId} {M M' : gM} {q : Nat × Nat} {e : va_E} {a : Nat} (h2 : 2 ≤ M.1.length) (h1 : M'.1 = M.1 ++ [q]) (ha : a + 2 = B.2.2 + M.1.length) (he : e = g_cell B cI M' M.1.length q) (ho : ∀ j, j < M.1.length → ∀ q, M.1[j]? = some q → g_cell B cI M j q = g_cell B cI M' j q) : g_ws B cI M ++ [(a, e)] = g_ws B cI M' := by
  apply List.ext_getElem?
  intro j
  rcases Nat.lt_trichotomy j (M.1.length - 2) with hj | hj | hj
  · rw [List.getElem?_append_left (by rw [g_ws_len]; exact hj), g_ws_get, g_ws_get, h1, List.getElem?_append_left (by omega)]
    cases hx : M.1[j + 2]? with
    | none => rfl
    | some x =>
      show some (_, g_cell B cI M (j + 2) x) = some (_, g_cell B cI M' (j + 2) x)
      rw [ho (j + 2) (by omega) x hx]
  · subst hj
    rw [List.getElem?_append_right (by rw [g_ws_len]; exact Nat.le_refl _), g_ws_len, Nat.sub_self, g_ws_get, h1, List.getElem?_append_right (by omega)]
    have e1 : M.1.length - 2 + 2 = M.1.length := by omega
    rw [e1, Nat.sub_self, he]
    show some (a, _) = some (_, _)
    rw [show B.2.2 + (M.1.length - 2) = a by omega]
  · rw [List.getElem?_append_right (by rw [g_ws_len]; omega), g_ws_len, g_ws_get, h1, List.getElem?_eq_none (by simp; omega), List.getElem?_eq_none (by simp; omega)]
    rfl
/-! what stands around a run: the classes, the script, the one text -/
abbrev gE : Type := Nat × Nat × Nat × Nat × (Nat → Int32)
abbrev g_EB (E : gE) : gB := (E.1, E.2.1, E.2.2.1)
def g_Str (E : gE) (U : State) (H : Heap) : Prop :=
  (∃ adV : Nat → Nat, vk_S 1 [116] [g_byt] (fun _ => E.2.1) adV (g_A (g_EB E)) U H) ∧ va_Z "java/lang/String" "COMPACT_STRINGS" "Z" (.int 1) (g_A (g_EB E)) U H ∧ va_Zq "jdk/internal/util/Preconditions" "SIOOBE_FORMATTER" "Ljava/util/function/BiFunction;" (g_A (g_EB E)) U H
def g_Wm (E : gE) (U : State) : Prop :=
  vk_R RX9 64 g_txt E.2.1 U ∧ (∀ q ∈ g_nest, va_Nw (.methodLinkNest q.1 q.2.1 q.2.2.1 q.2.2.2) U) ∧ (va_AO RX6 U ∧ va_AO RX8 U ∧ va_AO RX3 U) ∧ va_Nw (.castable "[I" "java/lang/Cloneable") U
theorem g_Wm_warm {E : gE} {s U : State} (hW : s.WarmedH U.vm) (h : g_Wm E s) : g_Wm E U :=
  ⟨vk_R.warm hW h.1, fun q hq => va_Nw.warmM hW (h.2.1 q hq), ⟨va_AO.moved hW.alike h.2.2.1.1, va_AO.moved hW.alike h.2.2.1.2.1, va_AO.moved hW.alike h.2.2.1.2.2⟩, va_Nw.warmC hW h.2.2.2⟩
theorem g_Wm_same {E : gE} {u U : State} (hv : U.vm = u.vm) (h : g_Wm E u) : g_Wm E U :=
  ⟨vk_R.same hv h.1, fun q hq => va_Nw.same rfl hv.symm (h.2.1 q hq), ⟨va_AO.moved (by rw [hv]; exact Vm.Alike.refl _) h.2.2.1.1, va_AO.moved (by rw [hv]; exact Vm.Alike.refl _) h.2.2.1.2.1, va_AO.moved (by rw [hv]; exact Vm.Alike.refl _) h.2.2.1.2.2⟩, va_Nw.same rfl hv.symm h.2.2.2⟩
def g_Am (E : gE) (D : va_G) (cI : Nat → ClassId) (U : State) (H : Heap) : Prop :=
  (va_K D g_cl (g_tys cI) U ∧ E.1 < E.2.2.1 ∧ E.2.2.1 ≤ H.size ∧ va_X E.1 E.2.2.2.1 E.2.2.2.2 U H ∧ g_Str E U H) ∧ g_Wm E U

theorem g_Am1_moved {E : gE} {D : va_G} {cI : Nat → ClassId} {u U : State} {H0 H : Heap} (hvm : u.vm.Alike U.vm) (hz : H0.size ≤ H.size) (hq : ∀ a : Nat, a < H0.size → ¬ g_A (g_EB E) a → H[a]? = H0[a]?)
    (h : va_K D g_cl (g_tys cI) u ∧ E.1 < E.2.2.1 ∧ E.2.2.1 ≤ H0.size ∧ va_X E.1 E.2.2.2.1 E.2.2.2.2 u H0 ∧ g_Str E u H0) : va_K D g_cl (g_tys cI) U ∧ E.1 < E.2.2.1 ∧ E.2.2.1 ≤ H.size ∧ va_X E.1 E.2.2.2.1 E.2.2.2.2 U H ∧ g_Str E U H := by
  obtain ⟨h1, h2, h3, h4, ⟨adV, h5⟩, h6, h7⟩ := h
  refine ⟨va_K.moved hvm h1, h2, Nat.le_trans h3 hz, va_X.moved hvm (h4.kept (hq _ (Nat.lt_of_lt_of_le h2 h3) (fun z => Nat.not_le.mpr h2 z))), ⟨adV, vk_S.moved hvm (h5.kept hq)⟩, (h6.kept hq).moved hvm, (h7.kept hq).moved hvm⟩
theorem g_Am_warm {E : gE} {D : va_G} {cI : Nat → ClassId} {s U : State} {H0 H : Heap} {locs : List Loc} (hW : s.WarmedH U.vm) (hS : va_S (g_A (g_EB E)) H0 H locs) (h : g_Am E D cI s H0) : g_Am E D cI U H :=
  ⟨g_Am1_moved hW.alike hS.1 (fun a h1 h2 => hS.2.1 a h1 h2) h.1, g_Wm_warm hW h.2⟩
theorem g_Am_calling {E : gE} {D : va_G} {cI : Nat → ClassId} {U : State} {g : JFrame} {mk : MethodId} {a : Array Value} (h : g_Am E D cI U U.heap) : g_Am E D cI (U.calling g mk a) (U.calling g mk a).heap :=
  ⟨g_Am1_moved (u := U) (U := U.calling g mk a) (Vm.Alike.refl U.vm) (Nat.le_refl _) (fun _ _ _ => rfl) h.1, g_Wm_same (u := U) rfl h.2⟩
def g_Pic (E : gE) (D : va_G) (cI : Nat → ClassId) (M : gM) (H : Heap) : Prop :=
  H.size + 2 = E.2.2.1 + M.1.length ∧ M.1[0]? = some (30, E.2.2.2.1) ∧ M.2.1 0 = E.2.2.2.2 ∧ M.1[1]? = some (31, 0) ∧ va_P D g_cl (g_ws (g_EB E) cI M) H
theorem g_Pic_len {E : gE} {D : va_G} {cI : Nat → ClassId} {M : gM} {H : Heap} (h : g_Pic E D cI M H) : 2 ≤ M.1.length := (List.getElem?_eq_some_iff.mp h.2.2.2.1).1
theorem g_Pic_two {E : gE} {D : va_G} {cI : Nat → ClassId} {M : gM} {H : Heap} (h : g_Pic E D cI M H) {i : Nat} {q : Nat × Nat} (hi : M.1[i]? = some q) (hq : q.1 < 30) : 2 ≤ i := by
  match i, hi with
  | 0, hi =>
    rw [h.2.1] at hi
    cases hi
    exact absurd hq (by simp)
  | 1, hi =>
    rw [h.2.2.2.1] at hi
    cases hi
    exact absurd hq (by simp)
  | i + 2, _ => omega
def g_ri : Option FieldType → Instr
  | none => .return_
  | some .long => .lreturn
  | some (.object _) => .areturn
  | some (.array _) => .areturn
  | some _ => .ireturn
def g_rok : Option FieldType → Option gV → Prop
  | none, none => True
  | some .long, some (.inr (.inl _)) => True
  | some (.object _), some (.inr (.inr _)) => True
  | some (.array _), some (.inr (.inr _)) => True
  | some .int, some (.inl _) => True
  | some .boolean, some (.inl v) => narrow .boolean (.int v) = .int v
  | _, _ => False
def g_Cx (E : gE) (D : va_G) (cI : Nat → ClassId) (X : gX) (p : Program) (m : MethodId) (s : State) (args : Array Value) (meth : Method) (c : Code) : Prop :=
  p.tables.exec = Jvm.exec ∧ c.code = X.2.1 ∧ c.maxLocals = X.2.2.1 ∧ s.vm.findClass X.1 = some m.cls ∧ (∀ w ∈ g_tb, w.before args s = true) ∧ g_Am E D cI s s.heap ∧ meth.locks = false ∧ meth.sig.returnType = X.2.2.2.1 ∧ (X.2.2.2.2 = true → meth.name = "<init>")
def g_vals (B : gB) (lv : List (Nat × gV)) : List (Nat × Value) := lv.map (fun q => (q.1, g_tr B q.2))
/-- from pc of the method X, with these locals, this stack, this memory, the run comes to its end with res: d calls deep at most, bc cells and bs slots new at most -/
def GW (d bc bs : Nat) (X : gX) (pc : Nat) (lv : List (Nat × gV)) (st : List gV) (M : gM) (res : Option gV × gM) : Prop :=
  ∀ (E : gE) (D : va_G) (cI : Nat → ClassId) (p : Program) (l : Launch) (e : Env) (R : Room) (s : State) (m : MethodId) (args : Array Value) (below : List Frame) (meth : Method) (c : Code) (H : Heap) (locs : List Loc) (cells slots : Nat) (Q : State → Prop) (ls : Array Slot),
    g_Cx E D cI X p m s args meth c → lv_has ls X.2.2.1 (g_vals (g_EB E) lv) → g_Pic E D cI M H → va_S (g_A (g_EB E)) s.heap H locs →
    (cells + bc ≤ R.cells ∧ slots + bs ≤ R.slots ∧ d ≤ R.frames ∧ 40 * d ≤ R.locals) →
    (∀ (H1 : Heap) (locs1 : List Loc) (k n pc1 : Nat) (ls1 : Array Slot), g_Pic E D cI res.2 H1 → va_S (g_A (g_EB E)) s.heap H1 locs1 → k ≤ cells + bc → n ≤ slots + bs → decode X.2.1 pc1 = .ok (g_ri X.2.2.2.1, 1) → g_rok X.2.2.2.1 res.1 →
      W p l e R s m args below meth c H1 locs1 k n Q (F0 m pc1 ls1 ((res.1.map (g_tr (g_EB E))).toList))) →
    W p l e R s m args below meth c H locs cells slots Q (F0 m pc ls (st.map (g_tr (g_EB E))))
def g_room (d bc bs : Nat) : Room := { frames := d, cells := bc, slots := bs, locals := 40 * d }
/-- the method y, called with these values and this memory, comes to its end with res -/
def g_Met (d bc bs : Nat) (y : MethodName) (X : gX) (as : List gV) (M : gM) (res : Option gV × gM) : Prop :=
  ∀ (E : gE) (D : va_G) (cI : Nat → ClassId) (l : Launch), Met l y (.code y X.2.1 X.2.2.1 X.2.2.2.1 :: g_tb) (g_room d bc bs)
    (va_Pc (as.map (g_tr (g_EB E))) (fun U => g_Am E D cI U U.heap ∧ g_Pic E D cI M U.heap))
    (fun _ st o t => o = .returned (res.1.map (g_tr (g_EB E))) ∧ g_Pic E D cI res.2 t.heap ∧ va_F (g_A (g_EB E)) st t) bc bs (g_A (g_EB E))
def g_args : Nat → List gV → List (Nat × gV)
  | _, [] => []
  | i, v :: vs => (i, v) :: g_args (if g_cat v = 2 then i + 2 else i + 1) vs
theorem g_args_vals (B : gB) : ∀ (vs : List gV) (i : Nat), lv_args i (vs.map (g_tr B)) = g_vals B (g_args i vs) := by
  intro vs
  induction vs with
  | nil => intro i; rfl
  | cons v vs ih =>
    intro i
    show (i, g_tr B v) :: lv_args _ _ = (i, g_tr B v) :: g_vals B _
    rw [g_tr_cat, ih]
def g_wid (vs : List gV) : Nat := (vs.map g_cat).sum
theorem g_wid_sl (B : gB) : ∀ (vs : List gV), (lg_sl (vs.map (g_tr B))).length = g_wid vs := by
  intro vs
  induction vs with
  | nil => rfl
  | cons v vs ih =>
    have e : lg_sl ((v :: vs).map (g_tr B)) = (if (g_tr B v).category = 2 then [Slot.val (g_tr B v), .second] else [.val (g_tr B v)]) ++ lg_sl (vs.map (g_tr B)) := by
      simp [lg_sl]
    rw [e, List.length_append, ih, g_tr_cat]
    show _ = g_cat v + g_wid vs
    rcases v with x | x | r <;> rfl
theorem g_Met_of {d bc bs : Nat} {y : MethodName} {X : gX} {as : List gV} {M : gM} {res : Option gV × gM} (hy : plainName y.cls = true) (hc : y.cls = X.1) (hw : g_wid as ≤ X.2.2.1) (hi : X.2.2.2.2 = true → y.name = "<init>")
    (k : GW d bc bs X 0 (g_args 0 as) [] M res) : g_Met d bc bs y X as M res := by
  intro E D cI l
  refine Met.ofW (cc := X.2.1) (maxL := X.2.2.1) (ret := X.2.2.2.1) hy rfl ?_
  intro p e s m args below meth c s₁ B hml hv
  obtain ⟨rfl, hAm, hP⟩ := hv
  have hts := atoms_spec (ws := .code y X.2.1 X.2.2.1 X.2.2.2.1 :: g_tb) B.pre
  have hown : s.vm.findClass y.cls = some m.cls := findClass_of_methodNamed B.named
  have hx := B.exec
  have hb := B.bytes
  have hr := B.returns
  have hlocks := B.notSynchronized
  have hl := lv_entry (as.map (g_tr (g_EB E))) (n := X.2.2.1) (by rw [g_wid_sl]; exact hw)
  rw [g_args_vals] at hl
  rw [lg_entry_eq]
  refine k E D cI p l e _ s m _ below meth c s.heap [] 0 0 _ _ ⟨hx, hb, hml, by rw [← hc]; exact hown, fun w hw => hts w (List.mem_cons_of_mem _ hw), hAm, hlocks, hr, fun h => by rw [(name_of_methodNamed B.named B.method).1]; exact hi h⟩ hl hP va_S.rf ⟨by show 0 + bc ≤ bc; omega, by show 0 + bs ≤ bs; omega, Nat.le_refl _, Nat.le_refl _⟩ ?_
  intro H1 locs1 k1 n1 pc1 ls1 hP1 hS1 hk1 hn1 hdg hrt
  refine W.widen (k := bc) (n := bs) (by omega) (by omega) ?_
  have hq : ∀ t : State, t.heap = H1 → s.WarmedH t.vm → (g_Pic E D cI res.2 t.heap ∧ va_F (g_A (g_EB E)) s t) := fun t ht _ => ⟨by rw [ht]; exact hP1, hS1.F ht⟩
  obtain ⟨own, cc, nL, ret, ini⟩ := X
  obtain ⟨r, M1⟩ := res
  dsimp only at hrt hr hdg hq ⊢
  match ret, r, hrt, hdg, hr with
  | none, none, _, hdg, hr => exact W.vret hx hb hr (fun t ht hW => ⟨rfl, hq t ht hW⟩) hS1.2.2 hdg
  | some .long, some (.inr (.inl v)), _, hdg, hr => exact W.lret (v := v) hx hb hr (fun t ht hW => ⟨rfl, hq t ht hW⟩) hS1.2.2 hdg
  | some (.object n), some (.inr (.inr v)), _, hdg, hr => exact W.aret (v := va_rf (v.map (g_ad (g_EB E)))) hx hb hr (Or.inl ⟨_, rfl⟩) (by cases v <;> simp [va_rf]) (fun t ht hW => ⟨rfl, hq t ht hW⟩) hS1.2.2 hdg
  | some (.array n), some (.inr (.inr v)), _, hdg, hr => exact W.aret (v := va_rf (v.map (g_ad (g_EB E)))) hx hb hr (Or.inr ⟨_, rfl⟩) (by cases v <;> simp [va_rf]) (fun t ht hW => ⟨rfl, hq t ht hW⟩) hS1.2.2 hdg
  | some .int, some (.inl v), _, hdg, hr => exact W.iret (v := v) hx hb hr (fun t ht hW => ⟨rfl, hq t ht hW⟩) hS1.2.2 hdg
  | some .boolean, some (.inl v), hn, hdg, hr => exact W.zret (v := v) hx hb hr hn (fun t ht hW => ⟨rfl, hq t ht hW⟩) hS1.2.2 hdg
theorem GW_ret {d bc bs : Nat} {X : gX} {pc : Nat} {lv : List (Nat × gV)} {st : List gV} {M : gM} {r : Option gV} (hd : decode X.2.1 pc = .ok (g_ri X.2.2.2.1, 1)) (hs : st = r.toList) (hk : g_rok X.2.2.2.1 r) : GW d bc bs X pc lv st M (r, M) := by
  intro E D cI p l e R s m args below meth c H locs cells slots Q ls C hl hP hS hB hR
  have := hR H locs cells slots pc ls hP hS (by omega) (by omega) hd hk
  rw [hs]
  cases r <;> exact this
theorem GW_sub {d bc bs : Nat} {X : gX} {pc : Nat} {lv lv' : List (Nat × gV)} {st : List gV} {M : gM} {res : Option gV × gM} (ks : List Nat) (h : ks.filterMap (fun k => lv[k]?) = lv') (k : GW d bc bs X pc lv' st M res) : GW d bc bs X pc lv st M res := by
  intro E D cI p l e R s m args below meth c H locs cells slots Q ls C hl hP hS hB hR
  refine k E D cI p l e R s m args below meth c H locs cells slots Q ls C (lv_sub hl ks ?_) hP hS hB hR
  subst h
  unfold lv_pick g_vals
  rw [List.map_filterMap]
  congr 1
  funext j
  rw [List.getElem?_map]
theorem GW_widen {d d' bc bs bc' bs' : Nat} {X : gX} {pc : Nat} {lv : List (Nat × gV)} {st : List gV} {M : gM} {res : Option gV × gM} (h1 : d' ≤ d) (h2 : bc' ≤ bc) (h3 : bs' ≤ bs) (k : GW d' bc' bs' X pc lv st M res) : GW d bc bs X pc lv st M res := by
  intro E D cI p l e R s m args below meth c H locs cells slots Q ls C hl hP hS hB hR
  exact k E D cI p l e R s m args below meth c H locs cells slots Q ls C hl hP hS ⟨by omega, by omega, by omega, by omega⟩ (fun H1 locs1 k n pc1 ls1 a1 a2 a3 a4 a5 a6 => hR H1 locs1 k n pc1 ls1 a1 a2 (by omega) (by omega) a5 a6)
