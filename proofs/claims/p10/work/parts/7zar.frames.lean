/-! the class's own questions parts, ways: what they leave -/
def uC_R (M M' : gM) : Prop := (M'.1 = M.1 ∧ M'.2.2.2 = M.2.2.2) ∧ ∀ i, ¬ q_N i → M'.2.1 i = M.2.1 i
def uC_P (M : gM) (o : Option gM) : Prop := k_G M → ∀ r, o = some r → uC_R M r
def uC_Q {β : Type} (M : gM) (o : Option (β × gM)) : Prop := k_G M → ∀ r, o = some r → uC_R M r.2
theorem uC_r {M : gM} : uC_R M M := ⟨⟨rfl, rfl⟩, fun _ _ => rfl⟩
theorem uC_t {M M1 M2 : gM} (a : uC_R M M1) (b : uC_R M1 M2) : uC_R M M2 := ⟨⟨b.1.1.trans a.1.1, b.1.2.trans a.1.2⟩, fun i h => (b.2 i h).trans (a.2 i h)⟩
theorem uC_g {M M' : gM} (G : k_G M) (a : uC_R M M') : k_G M' := k_G_eq G a.1.1 a.1.2
theorem uCP_none {M : gM} : uC_P M none := fun _ r h => by cases h
theorem uCQ_none {β : Type} {M : gM} : uC_Q M (none : Option (β × gM)) := fun _ r h => by cases h
theorem uCP_some {M : gM} : uC_P M (some M) := fun _ r h => by obtain rfl := Option.some.inj h; exact uC_r
theorem uCQ_some {β : Type} {v : β} {M : gM} : uC_Q M (some (v, M)) := fun _ r h => by obtain rfl := Option.some.inj h; exact uC_r
theorem uCP_ite {c : Prop} [Decidable c] {M : gM} {a b : Option gM} (h1 : uC_P M a) (h2 : uC_P M b) : uC_P M (if c then a else b) := by split <;> assumption
theorem uCQ_ite {β : Type} {c : Prop} [Decidable c] {M : gM} {a b : Option (β × gM)} (h1 : uC_Q M a) (h2 : uC_Q M b) : uC_Q M (if c then a else b) := by split <;> assumption
theorem uCP_bind {α : Type} {M : gM} {o : Option α} {f : α → Option gM} (h : ∀ a, uC_P M (f a)) : uC_P M (o.bind f) := by
  cases o with
  | none => exact uCP_none
  | some a => exact h a
theorem uCQ_bind {α β : Type} {M : gM} {o : Option α} {f : α → Option (β × gM)} (h : ∀ a, uC_Q M (f a)) : uC_Q M (o.bind f) := by
  cases o with
  | none => exact uCQ_none
  | some a => exact h a
theorem uCP_bM {M : gM} {o : Option gM} {f : gM → Option gM} (h1 : uC_P M o) (h2 : ∀ M', uC_P M' (f M')) : uC_P M (o.bind f) := fun k r e => by
  cases o with
  | none => cases e
  | some M1 =>
    have a := h1 k M1 rfl
    exact uC_t a (h2 M1 (uC_g k a) r e)
theorem uCQ_bM {β : Type} {M : gM} {o : Option gM} {f : gM → Option (β × gM)} (h1 : uC_P M o) (h2 : ∀ M', uC_Q M' (f M')) : uC_Q M (o.bind f) := fun k r e => by
  cases o with
  | none => cases e
  | some M1 =>
    have a := h1 k M1 rfl
    exact uC_t a (h2 M1 (uC_g k a) r e)
theorem uCP_bQ {α : Type} {M : gM} {o : Option (α × gM)} {f : α × gM → Option gM} (h1 : uC_Q M o) (h2 : ∀ a M', uC_P M' (f (a, M'))) : uC_P M (o.bind f) := fun k r e => by
  cases o with
  | none => cases e
  | some q =>
    obtain ⟨v, M1⟩ := q
    have a := h1 k (v, M1) rfl
    exact uC_t a (h2 v M1 (uC_g k a) r e)
theorem uCQ_bQ {α β : Type} {M : gM} {o : Option (α × gM)} {f : α × gM → Option (β × gM)} (h1 : uC_Q M o) (h2 : ∀ a M', uC_Q M' (f (a, M'))) : uC_Q M (o.bind f) := fun k r e => by
  cases o with
  | none => cases e
  | some q =>
    obtain ⟨v, M1⟩ := q
    have a := h1 k (v, M1) rfl
    exact uC_t a (h2 v M1 (uC_g k a) r e)
theorem uC_gO {α : Type} {c i : Nat} {M : gM} {f : Nat → Option α} {P : Option α → Prop} (h0 : P none) (h : P (f i)) : P ((gO c M (some i)).bind f) := by
  unfold gO
  rw [Option.bind_some]
  split
  · exact h
  · exact h0
theorem uCP_gO {c i : Nat} {M : gM} {f : Nat → Option gM} (h : uC_P M (f i)) : uC_P M ((gO c M (some i)).bind f) := uC_gO uCP_none h
theorem uCQ_gO {β : Type} {c i : Nat} {M : gM} {f : Nat → Option (β × gM)} (h : uC_Q M (f i)) : uC_Q M ((gO c M (some i)).bind f) := uC_gO uCQ_none h
theorem uCP_r9 {M : gM} {f : Option Nat → Option gM} (h : uC_P M (f (some 122))) : uC_P M ((gR 11 M (some 2) 9).bind f) := fun G => by
  rw [t_gR (G_k2 G) (G_r9 G), Option.bind_some]
  exact h G
theorem uCQ_r9 {β : Type} {M : gM} {f : Option Nat → Option (β × gM)} (h : uC_Q M (f (some 122))) : uC_Q M ((gR 11 M (some 2) 9).bind f) := fun G => by
  rw [t_gR (G_k2 G) (G_r9 G), Option.bind_some]
  exact h G
theorem uCP_r10 {M : gM} {f : Option Nat → Option gM} (h : uC_P M (f (some 123))) : uC_P M ((gR 11 M (some 2) 10).bind f) := fun G => by
  rw [t_gR (G_k2 G) (G_r10 G), Option.bind_some]
  exact h G
theorem uCQ_r10 {β : Type} {M : gM} {f : Option Nat → Option (β × gM)} (h : uC_Q M (f (some 123))) : uC_Q M ((gR 11 M (some 2) 10).bind f) := fun G => by
  rw [t_gR (G_k2 G) (G_r10 G), Option.bind_some]
  exact h G
theorem G_k123 {M : gM} (G : k_G M) : g_k M 123 = (0, 0) := k_kd G (by decide)
theorem uCP_r0 {M : gM} {f : Option Nat → Option gM} (h : uC_P M (f (some 124))) : uC_P M ((gR 0 M (some 123) 0).bind f) := fun G => by
  rw [t_gR (G_k123 G) (G_r123 G), Option.bind_some]
  exact h G
theorem uCQ_r0 {β : Type} {M : gM} {f : Option Nat → Option (β × gM)} (h : uC_Q M (f (some 124))) : uC_Q M ((gR 0 M (some 123) 0).bind f) := fun G => by
  rw [t_gR (G_k123 G) (G_r123 G), Option.bind_some]
  exact h G
theorem uCP_sI {M : gM} {j v : Int32} : uC_P M (sI M (some 122) j v) := fun k r e => by
  unfold sI at e
  rw [Option.bind_some] at e
  split at e
  · obtain rfl := Option.some.inj e
    exact ⟨⟨rfl, rfl⟩, fun i h => funext (fun k => mI_ne (Or.inl (fun z => h (by rw [z]; unfold q_N; omega))))⟩
  · cases e
theorem uCP_pI {c : Nat} {M : gM} {j : Nat} {v : Int32} : uC_P M (pI c M (some 123) j v) := fun k r e => by
  unfold pI at e
  rw [Option.bind_some] at e
  split at e
  · obtain rfl := Option.some.inj e
    exact ⟨⟨rfl, rfl⟩, fun i h => funext (fun k => mI_ne (Or.inl (fun z => h (by rw [z]; unfold q_N; omega))))⟩
  · cases e
theorem uCP_sL {M : gM} {o : Option Nat} {j : Int32} {v : Int64} : uC_P M (sL M o j v) := fun k r e => by
  cases o with
  | none => cases e
  | some i =>
    unfold sL at e
    rw [Option.bind_some] at e
    split at e
    · obtain rfl := Option.some.inj e
      exact ⟨⟨rfl, rfl⟩, fun _ _ => rfl⟩
    · cases e
theorem UC_X11_fillUnlike_b83 {k4 : Option Nat → Int32 → Int32 → Int32 → gM → Option (Int32 × gM)} {k20 : Option Nat → Int32 → Int32 → Int32 → Int32 → gM → Option (Int32 × gM)} (hk4 : ∀ (a1 : Int32) (a2 : Int32) (a3 : Int32) (M : gM), uC_Q M (k4 (some 2) a1 a2 a3 M)) (hk20 : ∀ (a1 : Int32) (a2 : Int32) (a3 : Int32) (a4 : Int32) (M : gM), uC_Q M (k20 (some 2) a1 a2 a3 a4 M)) (l1 : Int32) (l2 : Int32) (l3 : Int32) (l4 : Int32) (M : gM) : uC_Q M (F_X11_fillUnlike_b83 k4 k20 (some 2) l1 l2 l3 l4 M) := by
  delta F_X11_fillUnlike_b83
  with_reducible repeat' (first | exact hk4 _ _ _ _ | exact hk20 _ _ _ _ _ | refine uCP_gO ?_ | refine uCQ_gO ?_ | refine uCP_r9 ?_ | refine uCQ_r9 ?_ | refine uCP_r10 ?_ | refine uCQ_r10 ?_ | refine uCP_r0 ?_ | refine uCQ_r0 ?_ | exact uCP_none | exact uCQ_none | exact uCP_some | exact uCQ_some | exact uCP_sI | exact uCP_pI | exact uCP_sL | refine uCP_ite ?_ ?_ | refine uCQ_ite ?_ ?_ | refine uCP_bM ?_ (fun _ => ?_) | refine uCQ_bM ?_ (fun _ => ?_) | refine uCP_bQ ?_ (fun _ _ => ?_) | refine uCQ_bQ ?_ (fun _ _ => ?_) | refine uCP_bind (fun _ => ?_) | refine uCQ_bind (fun _ => ?_) | dsimp only)
theorem UC_X11_fillUnlike_b20 {k4 : Option Nat → Int32 → Int32 → Int32 → gM → Option (Int32 × gM)} {k20 : Option Nat → Int32 → Int32 → Int32 → Int32 → gM → Option (Int32 × gM)} (hk4 : ∀ (a1 : Int32) (a2 : Int32) (a3 : Int32) (M : gM), uC_Q M (k4 (some 2) a1 a2 a3 M)) (hk20 : ∀ (a1 : Int32) (a2 : Int32) (a3 : Int32) (a4 : Int32) (M : gM), uC_Q M (k20 (some 2) a1 a2 a3 a4 M)) (l1 : Int32) (l2 : Int32) (l3 : Int32) (l4 : Int32) (M : gM) : uC_Q M (F_X11_fillUnlike_b20 k4 k20 (some 2) l1 l2 l3 l4 M) := by
  delta F_X11_fillUnlike_b20
  with_reducible repeat' (first | exact hk4 _ _ _ _ | exact hk20 _ _ _ _ _ | exact UC_X11_fillUnlike_b83 (by assumption) (by assumption) _ _ _ _ _ | refine uCP_gO ?_ | refine uCQ_gO ?_ | refine uCP_r9 ?_ | refine uCQ_r9 ?_ | refine uCP_r10 ?_ | refine uCQ_r10 ?_ | refine uCP_r0 ?_ | refine uCQ_r0 ?_ | exact uCP_none | exact uCQ_none | exact uCP_some | exact uCQ_some | exact uCP_sI | exact uCP_pI | exact uCP_sL | refine uCP_ite ?_ ?_ | refine uCQ_ite ?_ ?_ | refine uCP_bM ?_ (fun _ => ?_) | refine uCQ_bM ?_ (fun _ => ?_) | refine uCP_bQ ?_ (fun _ _ => ?_) | refine uCQ_bQ ?_ (fun _ _ => ?_) | refine uCP_bind (fun _ => ?_) | refine uCQ_bind (fun _ => ?_) | dsimp only)
theorem UC_X11_fillUnlike_L20 {k4 : Option Nat → Int32 → Int32 → Int32 → gM → Option (Int32 × gM)} (hk4 : ∀ (a1 : Int32) (a2 : Int32) (a3 : Int32) (M : gM), uC_Q M (k4 (some 2) a1 a2 a3 M))  : ∀ (n : Nat) (a1 : Int32) (a2 : Int32) (a3 : Int32) (a4 : Int32) (M : gM), uC_Q M (F_X11_fillUnlike_L20 k4  n (some 2) a1 a2 a3 a4 M) := by
  intro n
  induction n with
  | zero => intro a1 a2 a3 a4 M; exact uCQ_none
  | succ n ih => intro a1 a2 a3 a4 M; exact UC_X11_fillUnlike_b20 hk4 ih _ _ _ _ _
theorem UC_X11_fillUnlike_b4 {k4 : Option Nat → Int32 → Int32 → Int32 → gM → Option (Int32 × gM)} (hk4 : ∀ (a1 : Int32) (a2 : Int32) (a3 : Int32) (M : gM), uC_Q M (k4 (some 2) a1 a2 a3 M)) (l1 : Int32) (l2 : Int32) (l3 : Int32) (M : gM) : uC_Q M (F_X11_fillUnlike_b4 k4 (some 2) l1 l2 l3 M) := by
  delta F_X11_fillUnlike_b4
  with_reducible repeat' (first | exact hk4 _ _ _ _ | exact UC_X11_fillUnlike_L20 (by assumption) _ _ _ _ _ _ | refine uCP_gO ?_ | refine uCQ_gO ?_ | refine uCP_r9 ?_ | refine uCQ_r9 ?_ | refine uCP_r10 ?_ | refine uCQ_r10 ?_ | refine uCP_r0 ?_ | refine uCQ_r0 ?_ | exact uCP_none | exact uCQ_none | exact uCP_some | exact uCQ_some | exact uCP_sI | exact uCP_pI | exact uCP_sL | refine uCP_ite ?_ ?_ | refine uCQ_ite ?_ ?_ | refine uCP_bM ?_ (fun _ => ?_) | refine uCQ_bM ?_ (fun _ => ?_) | refine uCP_bQ ?_ (fun _ _ => ?_) | refine uCQ_bQ ?_ (fun _ _ => ?_) | refine uCP_bind (fun _ => ?_) | refine uCQ_bind (fun _ => ?_) | dsimp only)
theorem UC_X11_fillUnlike_L4  : ∀ (n : Nat) (a1 : Int32) (a2 : Int32) (a3 : Int32) (M : gM), uC_Q M (F_X11_fillUnlike_L4   n (some 2) a1 a2 a3 M) := by
  intro n
  induction n with
  | zero => intro a1 a2 a3 M; exact uCQ_none
  | succ n ih => intro a1 a2 a3 M; exact UC_X11_fillUnlike_b4 ih _ _ _ _
theorem UC_X11_fillUnlike_b0 (l1 : Int32) (M : gM) : uC_Q M (F_X11_fillUnlike_b0 (some 2) l1 M) := by
  delta F_X11_fillUnlike_b0
  with_reducible repeat' (first | exact UC_X11_fillUnlike_L4  _ _ _ _ _ | refine uCP_gO ?_ | refine uCQ_gO ?_ | refine uCP_r9 ?_ | refine uCQ_r9 ?_ | refine uCP_r10 ?_ | refine uCQ_r10 ?_ | refine uCP_r0 ?_ | refine uCQ_r0 ?_ | exact uCP_none | exact uCQ_none | exact uCP_some | exact uCQ_some | exact uCP_sI | exact uCP_pI | exact uCP_sL | refine uCP_ite ?_ ?_ | refine uCQ_ite ?_ ?_ | refine uCP_bM ?_ (fun _ => ?_) | refine uCQ_bM ?_ (fun _ => ?_) | refine uCP_bQ ?_ (fun _ _ => ?_) | refine uCQ_bQ ?_ (fun _ _ => ?_) | refine uCP_bind (fun _ => ?_) | refine uCQ_bind (fun _ => ?_) | dsimp only)
theorem UC_X11_fillUnlike (l1 : Int32) (M : gM) : uC_Q M (F_X11_fillUnlike (some 2) l1 M) := by
  delta F_X11_fillUnlike
  with_reducible repeat' (first | exact UC_X11_fillUnlike_b0  _ _ | refine uCP_gO ?_ | refine uCQ_gO ?_ | refine uCP_r9 ?_ | refine uCQ_r9 ?_ | refine uCP_r10 ?_ | refine uCQ_r10 ?_ | refine uCP_r0 ?_ | refine uCQ_r0 ?_ | exact uCP_none | exact uCQ_none | exact uCP_some | exact uCQ_some | exact uCP_sI | exact uCP_pI | exact uCP_sL | refine uCP_ite ?_ ?_ | refine uCQ_ite ?_ ?_ | refine uCP_bM ?_ (fun _ => ?_) | refine uCQ_bM ?_ (fun _ => ?_) | refine uCP_bQ ?_ (fun _ _ => ?_) | refine uCQ_bQ ?_ (fun _ _ => ?_) | refine uCP_bind (fun _ => ?_) | refine uCQ_bind (fun _ => ?_) | dsimp only)
theorem UC_X11_parts_b26 (M : gM) : uC_Q M (F_X11_parts_b26 M) := by
  delta F_X11_parts_b26
  with_reducible repeat' (first | refine uCP_gO ?_ | refine uCQ_gO ?_ | refine uCP_r9 ?_ | refine uCQ_r9 ?_ | refine uCP_r10 ?_ | refine uCQ_r10 ?_ | refine uCP_r0 ?_ | refine uCQ_r0 ?_ | exact uCP_none | exact uCQ_none | exact uCP_some | exact uCQ_some | exact uCP_sI | exact uCP_pI | exact uCP_sL | refine uCP_ite ?_ ?_ | refine uCQ_ite ?_ ?_ | refine uCP_bM ?_ (fun _ => ?_) | refine uCQ_bM ?_ (fun _ => ?_) | refine uCP_bQ ?_ (fun _ _ => ?_) | refine uCQ_bQ ?_ (fun _ _ => ?_) | refine uCP_bind (fun _ => ?_) | refine uCQ_bind (fun _ => ?_) | dsimp only)
theorem UC_X11_parts_b99 {k40 : Option Nat → Int32 → Int32 → Int32 → Int32 → gM → Option (Int32 × gM)} (hk40 : ∀ (a1 : Int32) (a2 : Int32) (a3 : Int32) (a4 : Int32) (M : gM), uC_Q M (k40 (some 2) a1 a2 a3 a4 M)) (l2 : Int32) (l3 : Int32) (l4 : Int32) (l5 : Int32) (M : gM) : uC_Q M (F_X11_parts_b99 k40 (some 2) l2 l3 l4 l5 M) := by
  delta F_X11_parts_b99
  with_reducible repeat' (first | exact hk40 _ _ _ _ _ | refine uCP_gO ?_ | refine uCQ_gO ?_ | refine uCP_r9 ?_ | refine uCQ_r9 ?_ | refine uCP_r10 ?_ | refine uCQ_r10 ?_ | refine uCP_r0 ?_ | refine uCQ_r0 ?_ | exact uCP_none | exact uCQ_none | exact uCP_some | exact uCQ_some | exact uCP_sI | exact uCP_pI | exact uCP_sL | refine uCP_ite ?_ ?_ | refine uCQ_ite ?_ ?_ | refine uCP_bM ?_ (fun _ => ?_) | refine uCQ_bM ?_ (fun _ => ?_) | refine uCP_bQ ?_ (fun _ _ => ?_) | refine uCQ_bQ ?_ (fun _ _ => ?_) | refine uCP_bind (fun _ => ?_) | refine uCQ_bind (fun _ => ?_) | dsimp only)
theorem UC_X11_parts_b78 {k40 : Option Nat → Int32 → Int32 → Int32 → Int32 → gM → Option (Int32 × gM)} (hk40 : ∀ (a1 : Int32) (a2 : Int32) (a3 : Int32) (a4 : Int32) (M : gM), uC_Q M (k40 (some 2) a1 a2 a3 a4 M)) (l2 : Int32) (l3 : Int32) (l4 : Int32) (l5 : Int32) (s0 : Int32) (M : gM) : uC_Q M (F_X11_parts_b78 k40 (some 2) l2 l3 l4 l5 s0 M) := by
  delta F_X11_parts_b78
  with_reducible repeat' (first | exact hk40 _ _ _ _ _ | exact UC_X11_parts_b99 (by assumption) _ _ _ _ _ | refine uCP_gO ?_ | refine uCQ_gO ?_ | refine uCP_r9 ?_ | refine uCQ_r9 ?_ | refine uCP_r10 ?_ | refine uCQ_r10 ?_ | refine uCP_r0 ?_ | refine uCQ_r0 ?_ | exact uCP_none | exact uCQ_none | exact uCP_some | exact uCQ_some | exact uCP_sI | exact uCP_pI | exact uCP_sL | refine uCP_ite ?_ ?_ | refine uCQ_ite ?_ ?_ | refine uCP_bM ?_ (fun _ => ?_) | refine uCQ_bM ?_ (fun _ => ?_) | refine uCP_bQ ?_ (fun _ _ => ?_) | refine uCQ_bQ ?_ (fun _ _ => ?_) | refine uCP_bind (fun _ => ?_) | refine uCQ_bind (fun _ => ?_) | dsimp only)
theorem UC_X11_parts_b73 {k40 : Option Nat → Int32 → Int32 → Int32 → Int32 → gM → Option (Int32 × gM)} (hk40 : ∀ (a1 : Int32) (a2 : Int32) (a3 : Int32) (a4 : Int32) (M : gM), uC_Q M (k40 (some 2) a1 a2 a3 a4 M)) (l2 : Int32) (l3 : Int32) (l4 : Int32) (l5 : Int32) (M : gM) : uC_Q M (F_X11_parts_b73 k40 (some 2) l2 l3 l4 l5 M) := by
  delta F_X11_parts_b73
  with_reducible repeat' (first | exact hk40 _ _ _ _ _ | exact UC_X11_parts_b78 (by assumption) _ _ _ _ _ _ | refine uCP_gO ?_ | refine uCQ_gO ?_ | refine uCP_r9 ?_ | refine uCQ_r9 ?_ | refine uCP_r10 ?_ | refine uCQ_r10 ?_ | refine uCP_r0 ?_ | refine uCQ_r0 ?_ | exact uCP_none | exact uCQ_none | exact uCP_some | exact uCQ_some | exact uCP_sI | exact uCP_pI | exact uCP_sL | refine uCP_ite ?_ ?_ | refine uCQ_ite ?_ ?_ | refine uCP_bM ?_ (fun _ => ?_) | refine uCQ_bM ?_ (fun _ => ?_) | refine uCP_bQ ?_ (fun _ _ => ?_) | refine uCQ_bQ ?_ (fun _ _ => ?_) | refine uCP_bind (fun _ => ?_) | refine uCQ_bind (fun _ => ?_) | dsimp only)
theorem UC_X11_parts_b40 {k40 : Option Nat → Int32 → Int32 → Int32 → Int32 → gM → Option (Int32 × gM)} (hk40 : ∀ (a1 : Int32) (a2 : Int32) (a3 : Int32) (a4 : Int32) (M : gM), uC_Q M (k40 (some 2) a1 a2 a3 a4 M)) (l2 : Int32) (l3 : Int32) (l4 : Int32) (l5 : Int32) (M : gM) : uC_Q M (F_X11_parts_b40 k40 (some 2) l2 l3 l4 l5 M) := by
  delta F_X11_parts_b40
  with_reducible repeat' (first | exact hk40 _ _ _ _ _ | exact UC_X11_parts_b73 (by assumption) _ _ _ _ _ | exact UC_X11_parts_b78 (by assumption) _ _ _ _ _ _ | refine uCP_gO ?_ | refine uCQ_gO ?_ | refine uCP_r9 ?_ | refine uCQ_r9 ?_ | refine uCP_r10 ?_ | refine uCQ_r10 ?_ | refine uCP_r0 ?_ | refine uCQ_r0 ?_ | exact uCP_none | exact uCQ_none | exact uCP_some | exact uCQ_some | exact uCP_sI | exact uCP_pI | exact uCP_sL | refine uCP_ite ?_ ?_ | refine uCQ_ite ?_ ?_ | refine uCP_bM ?_ (fun _ => ?_) | refine uCQ_bM ?_ (fun _ => ?_) | refine uCP_bQ ?_ (fun _ _ => ?_) | refine uCQ_bQ ?_ (fun _ _ => ?_) | refine uCP_bind (fun _ => ?_) | refine uCQ_bind (fun _ => ?_) | dsimp only)
theorem UC_X11_parts_L40  : ∀ (n : Nat) (a1 : Int32) (a2 : Int32) (a3 : Int32) (a4 : Int32) (M : gM), uC_Q M (F_X11_parts_L40   n (some 2) a1 a2 a3 a4 M) := by
  intro n
  induction n with
  | zero => intro a1 a2 a3 a4 M; exact uCQ_none
  | succ n ih => intro a1 a2 a3 a4 M; exact UC_X11_parts_b40 ih _ _ _ _ _
theorem UC_X11_parts_b0 (l1 : Int32) (l2 : Int32) (M : gM) : uC_Q M (F_X11_parts_b0 (some 2) l1 l2 M) := by
  delta F_X11_parts_b0
  with_reducible repeat' (first | exact UC_X11_parts_b26  _ | exact UC_X11_fillUnlike  _ _ | exact UC_X11_parts_L40  _ _ _ _ _ _ | refine uCP_gO ?_ | refine uCQ_gO ?_ | refine uCP_r9 ?_ | refine uCQ_r9 ?_ | refine uCP_r10 ?_ | refine uCQ_r10 ?_ | refine uCP_r0 ?_ | refine uCQ_r0 ?_ | exact uCP_none | exact uCQ_none | exact uCP_some | exact uCQ_some | exact uCP_sI | exact uCP_pI | exact uCP_sL | refine uCP_ite ?_ ?_ | refine uCQ_ite ?_ ?_ | refine uCP_bM ?_ (fun _ => ?_) | refine uCQ_bM ?_ (fun _ => ?_) | refine uCP_bQ ?_ (fun _ _ => ?_) | refine uCQ_bQ ?_ (fun _ _ => ?_) | refine uCP_bind (fun _ => ?_) | refine uCQ_bind (fun _ => ?_) | dsimp only)
theorem UC_X11_parts (l1 : Int32) (l2 : Int32) (M : gM) : uC_Q M (F_X11_parts (some 2) l1 l2 M) := by
  delta F_X11_parts
  with_reducible repeat' (first | exact UC_X11_parts_b0  _ _ _ | refine uCP_gO ?_ | refine uCQ_gO ?_ | refine uCP_r9 ?_ | refine uCQ_r9 ?_ | refine uCP_r10 ?_ | refine uCQ_r10 ?_ | refine uCP_r0 ?_ | refine uCQ_r0 ?_ | exact uCP_none | exact uCQ_none | exact uCP_some | exact uCQ_some | exact uCP_sI | exact uCP_pI | exact uCP_sL | refine uCP_ite ?_ ?_ | refine uCQ_ite ?_ ?_ | refine uCP_bM ?_ (fun _ => ?_) | refine uCQ_bM ?_ (fun _ => ?_) | refine uCP_bQ ?_ (fun _ _ => ?_) | refine uCQ_bQ ?_ (fun _ _ => ?_) | refine uCP_bind (fun _ => ?_) | refine uCQ_bind (fun _ => ?_) | dsimp only)
theorem UC_X0_clear_b39 {k12 : Option Nat → Int32 → gM → Option gM} (hk12 : ∀ (a1 : Int32) (M : gM), uC_P M (k12 (some 123) a1 M)) (l2 : Int32) (s1 : Int32) (s2 : Int64) (M : gM) : uC_P M (F_X0_clear_b39 k12 (some 123) l2 (some 124) s1 s2 M) := by
  delta F_X0_clear_b39
  with_reducible repeat' (first | exact hk12 _ _ | refine uCP_gO ?_ | refine uCQ_gO ?_ | refine uCP_r9 ?_ | refine uCQ_r9 ?_ | refine uCP_r10 ?_ | refine uCQ_r10 ?_ | refine uCP_r0 ?_ | refine uCQ_r0 ?_ | exact uCP_none | exact uCQ_none | exact uCP_some | exact uCQ_some | exact uCP_sI | exact uCP_pI | exact uCP_sL | refine uCP_ite ?_ ?_ | refine uCQ_ite ?_ ?_ | refine uCP_bM ?_ (fun _ => ?_) | refine uCQ_bM ?_ (fun _ => ?_) | refine uCP_bQ ?_ (fun _ _ => ?_) | refine uCQ_bQ ?_ (fun _ _ => ?_) | refine uCP_bind (fun _ => ?_) | refine uCQ_bind (fun _ => ?_) | dsimp only)
theorem UC_X0_clear_b12 {k12 : Option Nat → Int32 → gM → Option gM} (hk12 : ∀ (a1 : Int32) (M : gM), uC_P M (k12 (some 123) a1 M)) (l2 : Int32) (M : gM) : uC_P M (F_X0_clear_b12 k12 (some 123) l2 M) := by
  delta F_X0_clear_b12
  with_reducible repeat' (first | exact hk12 _ _ | exact UC_X0_clear_b39 (by assumption) _ _ _ _ | refine uCP_gO ?_ | refine uCQ_gO ?_ | refine uCP_r9 ?_ | refine uCQ_r9 ?_ | refine uCP_r10 ?_ | refine uCQ_r10 ?_ | refine uCP_r0 ?_ | refine uCQ_r0 ?_ | exact uCP_none | exact uCQ_none | exact uCP_some | exact uCQ_some | exact uCP_sI | exact uCP_pI | exact uCP_sL | refine uCP_ite ?_ ?_ | refine uCQ_ite ?_ ?_ | refine uCP_bM ?_ (fun _ => ?_) | refine uCQ_bM ?_ (fun _ => ?_) | refine uCP_bQ ?_ (fun _ _ => ?_) | refine uCQ_bQ ?_ (fun _ _ => ?_) | refine uCP_bind (fun _ => ?_) | refine uCQ_bind (fun _ => ?_) | dsimp only)
theorem UC_X0_clear_L12  : ∀ (n : Nat) (a1 : Int32) (M : gM), uC_P M (F_X0_clear_L12   n (some 123) a1 M) := by
  intro n
  induction n with
  | zero => intro a1 M; exact uCP_none
  | succ n ih => intro a1 M; exact UC_X0_clear_b12 ih _ _
theorem UC_X0_clear_b0 (l1 : Int32) (M : gM) : uC_P M (F_X0_clear_b0 (some 123) l1 M) := by
  delta F_X0_clear_b0
  with_reducible repeat' (first | exact UC_X0_clear_L12  _ _ _ | refine uCP_gO ?_ | refine uCQ_gO ?_ | refine uCP_r9 ?_ | refine uCQ_r9 ?_ | refine uCP_r10 ?_ | refine uCQ_r10 ?_ | refine uCP_r0 ?_ | refine uCQ_r0 ?_ | exact uCP_none | exact uCQ_none | exact uCP_some | exact uCQ_some | exact uCP_sI | exact uCP_pI | exact uCP_sL | refine uCP_ite ?_ ?_ | refine uCQ_ite ?_ ?_ | refine uCP_bM ?_ (fun _ => ?_) | refine uCQ_bM ?_ (fun _ => ?_) | refine uCP_bQ ?_ (fun _ _ => ?_) | refine uCQ_bQ ?_ (fun _ _ => ?_) | refine uCP_bind (fun _ => ?_) | refine uCQ_bind (fun _ => ?_) | dsimp only)
theorem UC_X0_clear (l1 : Int32) (M : gM) : uC_P M (F_X0_clear (some 123) l1 M) := by
  delta F_X0_clear
  with_reducible repeat' (first | exact UC_X0_clear_b0  _ _ | refine uCP_gO ?_ | refine uCQ_gO ?_ | refine uCP_r9 ?_ | refine uCQ_r9 ?_ | refine uCP_r10 ?_ | refine uCQ_r10 ?_ | refine uCP_r0 ?_ | refine uCQ_r0 ?_ | exact uCP_none | exact uCQ_none | exact uCP_some | exact uCQ_some | exact uCP_sI | exact uCP_pI | exact uCP_sL | refine uCP_ite ?_ ?_ | refine uCQ_ite ?_ ?_ | refine uCP_bM ?_ (fun _ => ?_) | refine uCQ_bM ?_ (fun _ => ?_) | refine uCP_bQ ?_ (fun _ _ => ?_) | refine uCQ_bQ ?_ (fun _ _ => ?_) | refine uCP_bind (fun _ => ?_) | refine uCQ_bind (fun _ => ?_) | dsimp only)
theorem UC_X0_join_b0 (l1 : Int32) (l2 : Int32) (M : gM) : uC_P M (F_X0_join_b0 (some 123) l1 l2 M) := by
  delta F_X0_join_b0
  with_reducible repeat' (first | refine uCP_gO ?_ | refine uCQ_gO ?_ | refine uCP_r9 ?_ | refine uCQ_r9 ?_ | refine uCP_r10 ?_ | refine uCQ_r10 ?_ | refine uCP_r0 ?_ | refine uCQ_r0 ?_ | exact uCP_none | exact uCQ_none | exact uCP_some | exact uCQ_some | exact uCP_sI | exact uCP_pI | exact uCP_sL | refine uCP_ite ?_ ?_ | refine uCQ_ite ?_ ?_ | refine uCP_bM ?_ (fun _ => ?_) | refine uCQ_bM ?_ (fun _ => ?_) | refine uCP_bQ ?_ (fun _ _ => ?_) | refine uCQ_bQ ?_ (fun _ _ => ?_) | refine uCP_bind (fun _ => ?_) | refine uCQ_bind (fun _ => ?_) | dsimp only)
theorem UC_X0_join (l1 : Int32) (l2 : Int32) (M : gM) : uC_P M (F_X0_join (some 123) l1 l2 M) := by
  delta F_X0_join
  with_reducible repeat' (first | exact UC_X0_join_b0  _ _ _ | refine uCP_gO ?_ | refine uCQ_gO ?_ | refine uCP_r9 ?_ | refine uCQ_r9 ?_ | refine uCP_r10 ?_ | refine uCQ_r10 ?_ | refine uCP_r0 ?_ | refine uCQ_r0 ?_ | exact uCP_none | exact uCQ_none | exact uCP_some | exact uCQ_some | exact uCP_sI | exact uCP_pI | exact uCP_sL | refine uCP_ite ?_ ?_ | refine uCQ_ite ?_ ?_ | refine uCP_bM ?_ (fun _ => ?_) | refine uCQ_bM ?_ (fun _ => ?_) | refine uCP_bQ ?_ (fun _ _ => ?_) | refine uCQ_bQ ?_ (fun _ _ => ?_) | refine uCP_bind (fun _ => ?_) | refine uCQ_bind (fun _ => ?_) | dsimp only)
theorem UC_X0_howMany_b38 (M : gM) : uC_Q M (F_X0_howMany_b38 M) := by
  delta F_X0_howMany_b38
  with_reducible repeat' (first | refine uCP_gO ?_ | refine uCQ_gO ?_ | refine uCP_r9 ?_ | refine uCQ_r9 ?_ | refine uCP_r10 ?_ | refine uCQ_r10 ?_ | refine uCP_r0 ?_ | refine uCQ_r0 ?_ | exact uCP_none | exact uCQ_none | exact uCP_some | exact uCQ_some | exact uCP_sI | exact uCP_pI | exact uCP_sL | refine uCP_ite ?_ ?_ | refine uCQ_ite ?_ ?_ | refine uCP_bM ?_ (fun _ => ?_) | refine uCQ_bM ?_ (fun _ => ?_) | refine uCP_bQ ?_ (fun _ _ => ?_) | refine uCQ_bQ ?_ (fun _ _ => ?_) | refine uCP_bind (fun _ => ?_) | refine uCQ_bind (fun _ => ?_) | dsimp only)
theorem UC_X0_howMany_b59 {k4 : Option Nat → Int64 → Int32 → gM → Option (Int32 × gM)} {k45 : Option Nat → Int64 → Int32 → Int64 → Int32 → gM → Option (Int32 × gM)} {k59 : Option Nat → Int64 → Int32 → Int64 → Int32 → Int32 → gM → Option (Int32 × gM)} (hk4 : ∀ (a1 : Int64) (a2 : Int32) (M : gM), uC_Q M (k4 (some 123) a1 a2 M)) (hk45 : ∀ (a1 : Int64) (a2 : Int32) (a3 : Int64) (a4 : Int32) (M : gM), uC_Q M (k45 (some 123) a1 a2 a3 a4 M)) (hk59 : ∀ (a1 : Int64) (a2 : Int32) (a3 : Int64) (a4 : Int32) (a5 : Int32) (M : gM), uC_Q M (k59 (some 123) a1 a2 a3 a4 a5 M)) (l1 : Int64) (l3 : Int32) (l4 : Int64) (l6 : Int32) (l7 : Int32) (M : gM) : uC_Q M (F_X0_howMany_b59 k4 k45 k59 (some 123) l1 l3 l4 l6 l7 M) := by
  delta F_X0_howMany_b59
  with_reducible repeat' (first | exact hk4 _ _ _ | exact hk45 _ _ _ _ _ | exact hk59 _ _ _ _ _ _ | refine uCP_gO ?_ | refine uCQ_gO ?_ | refine uCP_r9 ?_ | refine uCQ_r9 ?_ | refine uCP_r10 ?_ | refine uCQ_r10 ?_ | refine uCP_r0 ?_ | refine uCQ_r0 ?_ | exact uCP_none | exact uCQ_none | exact uCP_some | exact uCQ_some | exact uCP_sI | exact uCP_pI | exact uCP_sL | refine uCP_ite ?_ ?_ | refine uCQ_ite ?_ ?_ | refine uCP_bM ?_ (fun _ => ?_) | refine uCQ_bM ?_ (fun _ => ?_) | refine uCP_bQ ?_ (fun _ _ => ?_) | refine uCQ_bQ ?_ (fun _ _ => ?_) | refine uCP_bind (fun _ => ?_) | refine uCQ_bind (fun _ => ?_) | dsimp only)
theorem UC_X0_howMany_L59 {k4 : Option Nat → Int64 → Int32 → gM → Option (Int32 × gM)} {k45 : Option Nat → Int64 → Int32 → Int64 → Int32 → gM → Option (Int32 × gM)} (hk4 : ∀ (a1 : Int64) (a2 : Int32) (M : gM), uC_Q M (k4 (some 123) a1 a2 M)) (hk45 : ∀ (a1 : Int64) (a2 : Int32) (a3 : Int64) (a4 : Int32) (M : gM), uC_Q M (k45 (some 123) a1 a2 a3 a4 M))  : ∀ (n : Nat) (a1 : Int64) (a2 : Int32) (a3 : Int64) (a4 : Int32) (a5 : Int32) (M : gM), uC_Q M (F_X0_howMany_L59 k4 k45  n (some 123) a1 a2 a3 a4 a5 M) := by
  intro n
  induction n with
  | zero => intro a1 a2 a3 a4 a5 M; exact uCQ_none
  | succ n ih => intro a1 a2 a3 a4 a5 M; exact UC_X0_howMany_b59 hk4 hk45 ih _ _ _ _ _ _
theorem UC_X0_howMany_b45 {k4 : Option Nat → Int64 → Int32 → gM → Option (Int32 × gM)} {k45 : Option Nat → Int64 → Int32 → Int64 → Int32 → gM → Option (Int32 × gM)} (hk4 : ∀ (a1 : Int64) (a2 : Int32) (M : gM), uC_Q M (k4 (some 123) a1 a2 M)) (hk45 : ∀ (a1 : Int64) (a2 : Int32) (a3 : Int64) (a4 : Int32) (M : gM), uC_Q M (k45 (some 123) a1 a2 a3 a4 M)) (l1 : Int64) (l3 : Int32) (l4 : Int64) (l6 : Int32) (M : gM) : uC_Q M (F_X0_howMany_b45 k4 k45 (some 123) l1 l3 l4 l6 M) := by
  delta F_X0_howMany_b45
  with_reducible repeat' (first | exact hk4 _ _ _ | exact hk45 _ _ _ _ _ | exact UC_X0_howMany_L59 (by assumption) (by assumption) _ _ _ _ _ _ _ | refine uCP_gO ?_ | refine uCQ_gO ?_ | refine uCP_r9 ?_ | refine uCQ_r9 ?_ | refine uCP_r10 ?_ | refine uCQ_r10 ?_ | refine uCP_r0 ?_ | refine uCQ_r0 ?_ | exact uCP_none | exact uCQ_none | exact uCP_some | exact uCQ_some | exact uCP_sI | exact uCP_pI | exact uCP_sL | refine uCP_ite ?_ ?_ | refine uCQ_ite ?_ ?_ | refine uCP_bM ?_ (fun _ => ?_) | refine uCQ_bM ?_ (fun _ => ?_) | refine uCP_bQ ?_ (fun _ _ => ?_) | refine uCQ_bQ ?_ (fun _ _ => ?_) | refine uCP_bind (fun _ => ?_) | refine uCQ_bind (fun _ => ?_) | dsimp only)
theorem UC_X0_howMany_L45 {k4 : Option Nat → Int64 → Int32 → gM → Option (Int32 × gM)} (hk4 : ∀ (a1 : Int64) (a2 : Int32) (M : gM), uC_Q M (k4 (some 123) a1 a2 M))  : ∀ (n : Nat) (a1 : Int64) (a2 : Int32) (a3 : Int64) (a4 : Int32) (M : gM), uC_Q M (F_X0_howMany_L45 k4  n (some 123) a1 a2 a3 a4 M) := by
  intro n
  induction n with
  | zero => intro a1 a2 a3 a4 M; exact uCQ_none
  | succ n ih => intro a1 a2 a3 a4 M; exact UC_X0_howMany_b45 hk4 ih _ _ _ _ _
theorem UC_X0_howMany_b4 {k4 : Option Nat → Int64 → Int32 → gM → Option (Int32 × gM)} (hk4 : ∀ (a1 : Int64) (a2 : Int32) (M : gM), uC_Q M (k4 (some 123) a1 a2 M)) (l1 : Int64) (l3 : Int32) (M : gM) : uC_Q M (F_X0_howMany_b4 k4 (some 123) l1 l3 M) := by
  delta F_X0_howMany_b4
  with_reducible repeat' (first | exact hk4 _ _ _ | exact UC_X0_howMany_b38  _ | exact UC_X0_howMany_L45 (by assumption) _ _ _ _ _ _ | refine uCP_gO ?_ | refine uCQ_gO ?_ | refine uCP_r9 ?_ | refine uCQ_r9 ?_ | refine uCP_r10 ?_ | refine uCQ_r10 ?_ | refine uCP_r0 ?_ | refine uCQ_r0 ?_ | exact uCP_none | exact uCQ_none | exact uCP_some | exact uCQ_some | exact uCP_sI | exact uCP_pI | exact uCP_sL | refine uCP_ite ?_ ?_ | refine uCQ_ite ?_ ?_ | refine uCP_bM ?_ (fun _ => ?_) | refine uCQ_bM ?_ (fun _ => ?_) | refine uCP_bQ ?_ (fun _ _ => ?_) | refine uCQ_bQ ?_ (fun _ _ => ?_) | refine uCP_bind (fun _ => ?_) | refine uCQ_bind (fun _ => ?_) | dsimp only)
theorem UC_X0_howMany_L4  : ∀ (n : Nat) (a1 : Int64) (a2 : Int32) (M : gM), uC_Q M (F_X0_howMany_L4   n (some 123) a1 a2 M) := by
  intro n
  induction n with
  | zero => intro a1 a2 M; exact uCQ_none
  | succ n ih => intro a1 a2 M; exact UC_X0_howMany_b4 ih _ _ _
theorem UC_X0_howMany_b0 (M : gM) : uC_Q M (F_X0_howMany_b0 (some 123) M) := by
  delta F_X0_howMany_b0
  with_reducible repeat' (first | exact UC_X0_howMany_L4  _ _ _ _ | refine uCP_gO ?_ | refine uCQ_gO ?_ | refine uCP_r9 ?_ | refine uCQ_r9 ?_ | refine uCP_r10 ?_ | refine uCQ_r10 ?_ | refine uCP_r0 ?_ | refine uCQ_r0 ?_ | exact uCP_none | exact uCQ_none | exact uCP_some | exact uCQ_some | exact uCP_sI | exact uCP_pI | exact uCP_sL | refine uCP_ite ?_ ?_ | refine uCQ_ite ?_ ?_ | refine uCP_bM ?_ (fun _ => ?_) | refine uCQ_bM ?_ (fun _ => ?_) | refine uCP_bQ ?_ (fun _ _ => ?_) | refine uCQ_bQ ?_ (fun _ _ => ?_) | refine uCP_bind (fun _ => ?_) | refine uCQ_bind (fun _ => ?_) | dsimp only)
theorem UC_X0_howMany (M : gM) : uC_Q M (F_X0_howMany (some 123) M) := by
  delta F_X0_howMany
  with_reducible repeat' (first | exact UC_X0_howMany_b0  _ | refine uCP_gO ?_ | refine uCQ_gO ?_ | refine uCP_r9 ?_ | refine uCQ_r9 ?_ | refine uCP_r10 ?_ | refine uCQ_r10 ?_ | refine uCP_r0 ?_ | refine uCQ_r0 ?_ | exact uCP_none | exact uCQ_none | exact uCP_some | exact uCQ_some | exact uCP_sI | exact uCP_pI | exact uCP_sL | refine uCP_ite ?_ ?_ | refine uCQ_ite ?_ ?_ | refine uCP_bM ?_ (fun _ => ?_) | refine uCQ_bM ?_ (fun _ => ?_) | refine uCP_bQ ?_ (fun _ _ => ?_) | refine uCQ_bQ ?_ (fun _ _ => ?_) | refine uCP_bind (fun _ => ?_) | refine uCQ_bind (fun _ => ?_) | dsimp only)
theorem UC_X11_ways_b75 {k26 : Option Nat → Int32 → Int32 → gM → Option (Int32 × gM)} {k41 : Option Nat → Int32 → Int32 → Int32 → gM → Option (Int32 × gM)} (hk26 : ∀ (a1 : Int32) (a2 : Int32) (M : gM), uC_Q M (k26 (some 2) a1 a2 M)) (hk41 : ∀ (a1 : Int32) (a2 : Int32) (a3 : Int32) (M : gM), uC_Q M (k41 (some 2) a1 a2 a3 M)) (l1 : Int32) (l2 : Int32) (l3 : Int32) (M : gM) : uC_Q M (F_X11_ways_b75 k26 k41 (some 2) l1 l2 l3 M) := by
  delta F_X11_ways_b75
  with_reducible repeat' (first | exact hk26 _ _ _ | exact hk41 _ _ _ _ | refine uCP_gO ?_ | refine uCQ_gO ?_ | refine uCP_r9 ?_ | refine uCQ_r9 ?_ | refine uCP_r10 ?_ | refine uCQ_r10 ?_ | refine uCP_r0 ?_ | refine uCQ_r0 ?_ | exact uCP_none | exact uCQ_none | exact uCP_some | exact uCQ_some | exact uCP_sI | exact uCP_pI | exact uCP_sL | refine uCP_ite ?_ ?_ | refine uCQ_ite ?_ ?_ | refine uCP_bM ?_ (fun _ => ?_) | refine uCQ_bM ?_ (fun _ => ?_) | refine uCP_bQ ?_ (fun _ _ => ?_) | refine uCQ_bQ ?_ (fun _ _ => ?_) | refine uCP_bind (fun _ => ?_) | refine uCQ_bind (fun _ => ?_) | dsimp only)
theorem UC_X11_ways_b41 {k26 : Option Nat → Int32 → Int32 → gM → Option (Int32 × gM)} {k41 : Option Nat → Int32 → Int32 → Int32 → gM → Option (Int32 × gM)} (hk26 : ∀ (a1 : Int32) (a2 : Int32) (M : gM), uC_Q M (k26 (some 2) a1 a2 M)) (hk41 : ∀ (a1 : Int32) (a2 : Int32) (a3 : Int32) (M : gM), uC_Q M (k41 (some 2) a1 a2 a3 M)) (l1 : Int32) (l2 : Int32) (l3 : Int32) (M : gM) : uC_Q M (F_X11_ways_b41 k26 k41 (some 2) l1 l2 l3 M) := by
  delta F_X11_ways_b41
  with_reducible repeat' (first | exact hk26 _ _ _ | exact hk41 _ _ _ _ | exact UC_X0_join  _ _ _ | exact UC_X11_ways_b75 (by assumption) (by assumption) _ _ _ _ | refine uCP_gO ?_ | refine uCQ_gO ?_ | refine uCP_r9 ?_ | refine uCQ_r9 ?_ | refine uCP_r10 ?_ | refine uCQ_r10 ?_ | refine uCP_r0 ?_ | refine uCQ_r0 ?_ | exact uCP_none | exact uCQ_none | exact uCP_some | exact uCQ_some | exact uCP_sI | exact uCP_pI | exact uCP_sL | refine uCP_ite ?_ ?_ | refine uCQ_ite ?_ ?_ | refine uCP_bM ?_ (fun _ => ?_) | refine uCQ_bM ?_ (fun _ => ?_) | refine uCP_bQ ?_ (fun _ _ => ?_) | refine uCQ_bQ ?_ (fun _ _ => ?_) | refine uCP_bind (fun _ => ?_) | refine uCQ_bind (fun _ => ?_) | dsimp only)
theorem UC_X11_ways_L41 {k26 : Option Nat → Int32 → Int32 → gM → Option (Int32 × gM)} (hk26 : ∀ (a1 : Int32) (a2 : Int32) (M : gM), uC_Q M (k26 (some 2) a1 a2 M))  : ∀ (n : Nat) (a1 : Int32) (a2 : Int32) (a3 : Int32) (M : gM), uC_Q M (F_X11_ways_L41 k26  n (some 2) a1 a2 a3 M) := by
  intro n
  induction n with
  | zero => intro a1 a2 a3 M; exact uCQ_none
  | succ n ih => intro a1 a2 a3 M; exact UC_X11_ways_b41 hk26 ih _ _ _ _
theorem UC_X11_ways_b26 {k26 : Option Nat → Int32 → Int32 → gM → Option (Int32 × gM)} (hk26 : ∀ (a1 : Int32) (a2 : Int32) (M : gM), uC_Q M (k26 (some 2) a1 a2 M)) (l1 : Int32) (l2 : Int32) (M : gM) : uC_Q M (F_X11_ways_b26 k26 (some 2) l1 l2 M) := by
  delta F_X11_ways_b26
  with_reducible repeat' (first | exact hk26 _ _ _ | exact UC_X0_howMany  _ | exact UC_X11_ways_L41 (by assumption) _ _ _ _ _ | refine uCP_gO ?_ | refine uCQ_gO ?_ | refine uCP_r9 ?_ | refine uCQ_r9 ?_ | refine uCP_r10 ?_ | refine uCQ_r10 ?_ | refine uCP_r0 ?_ | refine uCQ_r0 ?_ | exact uCP_none | exact uCQ_none | exact uCP_some | exact uCQ_some | exact uCP_sI | exact uCP_pI | exact uCP_sL | refine uCP_ite ?_ ?_ | refine uCQ_ite ?_ ?_ | refine uCP_bM ?_ (fun _ => ?_) | refine uCQ_bM ?_ (fun _ => ?_) | refine uCP_bQ ?_ (fun _ _ => ?_) | refine uCQ_bQ ?_ (fun _ _ => ?_) | refine uCP_bind (fun _ => ?_) | refine uCQ_bind (fun _ => ?_) | dsimp only)
theorem UC_X11_ways_L26  : ∀ (n : Nat) (a1 : Int32) (a2 : Int32) (M : gM), uC_Q M (F_X11_ways_L26   n (some 2) a1 a2 M) := by
  intro n
  induction n with
  | zero => intro a1 a2 M; exact uCQ_none
  | succ n ih => intro a1 a2 M; exact UC_X11_ways_b26 ih _ _ _
theorem UC_X11_ways_b0 (l1 : Int32) (M : gM) : uC_Q M (F_X11_ways_b0 (some 2) l1 M) := by
  delta F_X11_ways_b0
  with_reducible repeat' (first | exact UC_X0_clear  _ _ | exact UC_X11_ways_L26  _ _ _ _ | refine uCP_gO ?_ | refine uCQ_gO ?_ | refine uCP_r9 ?_ | refine uCQ_r9 ?_ | refine uCP_r10 ?_ | refine uCQ_r10 ?_ | refine uCP_r0 ?_ | refine uCQ_r0 ?_ | exact uCP_none | exact uCQ_none | exact uCP_some | exact uCQ_some | exact uCP_sI | exact uCP_pI | exact uCP_sL | refine uCP_ite ?_ ?_ | refine uCQ_ite ?_ ?_ | refine uCP_bM ?_ (fun _ => ?_) | refine uCQ_bM ?_ (fun _ => ?_) | refine uCP_bQ ?_ (fun _ _ => ?_) | refine uCQ_bQ ?_ (fun _ _ => ?_) | refine uCP_bind (fun _ => ?_) | refine uCQ_bind (fun _ => ?_) | dsimp only)
theorem UC_X11_ways (l1 : Int32) (M : gM) : uC_Q M (F_X11_ways (some 2) l1 M) := by
  delta F_X11_ways
  with_reducible repeat' (first | exact UC_X11_ways_b0  _ _ | refine uCP_gO ?_ | refine uCQ_gO ?_ | refine uCP_r9 ?_ | refine uCQ_r9 ?_ | refine uCP_r10 ?_ | refine uCQ_r10 ?_ | refine uCP_r0 ?_ | refine uCQ_r0 ?_ | exact uCP_none | exact uCQ_none | exact uCP_some | exact uCQ_some | exact uCP_sI | exact uCP_pI | exact uCP_sL | refine uCP_ite ?_ ?_ | refine uCQ_ite ?_ ?_ | refine uCP_bM ?_ (fun _ => ?_) | refine uCQ_bM ?_ (fun _ => ?_) | refine uCP_bQ ?_ (fun _ _ => ?_) | refine uCQ_bQ ?_ (fun _ _ => ?_) | refine uCP_bind (fun _ => ?_) | refine uCQ_bind (fun _ => ?_) | dsimp only)
/-! a call that is not compared -/
theorem uC_w {M M' : gM} (h : uC_R M M') : w_F q_N M M' := w_F_of h.1.1 h.1.2 (fun i hi => h.2 i hi)
theorem lw9_cPI {L : Nat} {lo hi : Int} {M : gM} {o : Option (Int32 × gM)} {β : Type} {f : Int32 × gM → Option β} {Q : β → Prop} (R : lw9 L M) (z1 : Ok o (q_PI q_ba M lo hi)) (u : uC_Q M o) (k : ∀ v M', lw9 L M' → M'.2.1 0 = M.2.1 0 → Ok (f (v, M')) Q) : Ok (o.bind f) Q := by
  obtain ⟨R8, e, σ, nx, sz, P, I, rc, Rr, C, E⟩ := R
  obtain ⟨⟨v, M1⟩, e1, y1⟩ := z1
  have F1 : w_F q_N M M1 := uC_w (u R8.2 (v, M1) e1)
  obtain ⟨R1, s1, rr⟩ := lw8_go (S := 0) R8 y1 rfl rfl rfl rfl rfl
  have hl := lw8_len R8.1.1.1
  have n2 := w_FN F1 hl (by unfold q_N; omega)
  have C1 := w_C_F C hl F1 (by rw [n2.2]) (by rw [n2.1]) (fun i z => by unfold q_N at z; omega)
  have E1 := w_E_c E rr
  rw [e1, Option.bind_some]
  exact k v M1 ⟨R1, e, σ, nx, sz, P, I, rc, Rr, C1, E1⟩ s1
theorem lw9_rPI {S L : Nat} {lo hi : Int} {M : gM} {o : Option (Int32 × gM)} {β : Type} {f : Int32 × gM → Option β} {Q : β → Prop} (R : lw9 L M) (hW : Nat.land S y_wb = 0) (hS : Nat.land S (2 ^ 1 + 2 ^ 2 + 2 ^ 41) = 0) (h6 : Nat.land S (2 ^ 21 + 2 ^ 22 + 2 ^ 59 + 2 ^ 60 + 2 ^ 61) = 0) (h9 : Nat.land S (2 ^ 2 + 2 ^ 25 + 2 ^ 42 + 2 ^ 44 + 2 ^ 45 + 2 ^ 52 + 2 ^ 58) = 0) (h50 : S.testBit 50 = false) (z : Ok o (y_PI S M lo hi)) (k : ∀ v M', lw9 L M' → M'.2.1 0 = M.2.1 0 → Ok (f (v, M')) Q) : Ok (o.bind f) Q := by
  obtain ⟨R8, e, σ, nx, sz, P, I, rc, Rr, C, E⟩ := R
  obtain ⟨⟨v, M2⟩, e2, y2⟩ := z
  obtain ⟨R2, s2⟩ := lw8_gr R8 hW hS h6 y2
  have E2 : ∀ j, j < 157 → M2.2.1 185 j = σ j := fun j _ => by rw [y_fa (i := 185) y2.2.2 (by decide) h50 j, E.1.1.1]
  rw [e2, Option.bind_some]
  exact k v M2 ⟨R2, e, M2.2.1 185, nx, sz, P, I, rc, Rr, w_C_congr (w_C_r C (lw8_len R8.1.1.1) y2.2.2) E2, w_E_r E y2.2.2 h9 rfl⟩ s2
theorem lw9_pi {β : Type} {lo hi : Int} {o : Option Int32} {f : Int32 → Option β} {Q : β → Prop} (h : Ok o (q_pi lo hi)) (k : ∀ v, Ok (f v) Q) : Ok (o.bind f) Q := Ok_b h (fun v _ => k v)
