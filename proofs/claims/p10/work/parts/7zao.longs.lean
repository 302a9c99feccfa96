/-! the reference's own number of draws: what a YEAR leaves -/
def uL_P (M : gM) (o : Option gM) : Prop := g_k M 175 = (12, 0) → ∀ r, o = some r → r.1 = M.1 ∧ r.2.2.1 175 = M.2.2.1 175
def uL_Q {β : Type} (M : gM) (o : Option (β × gM)) : Prop := g_k M 175 = (12, 0) → ∀ r, o = some r → r.2.1 = M.1 ∧ r.2.2.2.1 175 = M.2.2.1 175
theorem uLP_none {M : gM} : uL_P M none := fun _ r h => by cases h
theorem uLQ_none {β : Type} {M : gM} : uL_Q M (none : Option (β × gM)) := fun _ r h => by cases h
theorem uLP_some {M : gM} : uL_P M (some M) := fun _ r h => by obtain rfl := Option.some.inj h; exact ⟨rfl, rfl⟩
theorem uLQ_some {β : Type} {v : β} {M : gM} : uL_Q M (some (v, M)) := fun _ r h => by obtain rfl := Option.some.inj h; exact ⟨rfl, rfl⟩
theorem uLP_ite {c : Prop} [Decidable c] {M : gM} {a b : Option gM} (h1 : uL_P M a) (h2 : uL_P M b) : uL_P M (if c then a else b) := by split <;> assumption
theorem uLQ_ite {β : Type} {c : Prop} [Decidable c] {M : gM} {a b : Option (β × gM)} (h1 : uL_Q M a) (h2 : uL_Q M b) : uL_Q M (if c then a else b) := by split <;> assumption
theorem uLP_bind {α : Type} {M : gM} {o : Option α} {f : α → Option gM} (h : ∀ a, uL_P M (f a)) : uL_P M (o.bind f) := by
  cases o with
  | none => exact uLP_none
  | some a => exact h a
theorem uLQ_bind {α β : Type} {M : gM} {o : Option α} {f : α → Option (β × gM)} (h : ∀ a, uL_Q M (f a)) : uL_Q M (o.bind f) := by
  cases o with
  | none => exact uLQ_none
  | some a => exact h a
theorem uL_k {M M' : gM} (k : g_k M 175 = (12, 0)) (h : M'.1 = M.1) : g_k M' 175 = (12, 0) := (q_k_of h).trans k
theorem uLP_bM {M : gM} {o : Option gM} {f : gM → Option gM} (h1 : uL_P M o) (h2 : ∀ M', uL_P M' (f M')) : uL_P M (o.bind f) := fun k r e => by
  cases o with
  | none => cases e
  | some M1 =>
    have a := h1 k M1 rfl
    have b := h2 M1 (uL_k k a.1) r e
    exact ⟨b.1.trans a.1, b.2.trans a.2⟩
theorem uLQ_bM {β : Type} {M : gM} {o : Option gM} {f : gM → Option (β × gM)} (h1 : uL_P M o) (h2 : ∀ M', uL_Q M' (f M')) : uL_Q M (o.bind f) := fun k r e => by
  cases o with
  | none => cases e
  | some M1 =>
    have a := h1 k M1 rfl
    have b := h2 M1 (uL_k k a.1) r e
    exact ⟨b.1.trans a.1, b.2.trans a.2⟩
theorem uLP_bQ {α : Type} {M : gM} {o : Option (α × gM)} {f : α × gM → Option gM} (h1 : uL_Q M o) (h2 : ∀ a M', uL_P M' (f (a, M'))) : uL_P M (o.bind f) := fun k r e => by
  cases o with
  | none => cases e
  | some q =>
    obtain ⟨v, M1⟩ := q
    have a := h1 k (v, M1) rfl
    have b := h2 v M1 (uL_k k a.1) r e
    exact ⟨b.1.trans a.1, b.2.trans a.2⟩
theorem uLQ_bQ {α β : Type} {M : gM} {o : Option (α × gM)} {f : α × gM → Option (β × gM)} (h1 : uL_Q M o) (h2 : ∀ a M', uL_Q M' (f (a, M'))) : uL_Q M (o.bind f) := fun k r e => by
  cases o with
  | none => cases e
  | some q =>
    obtain ⟨v, M1⟩ := q
    have a := h1 k (v, M1) rfl
    have b := h2 v M1 (uL_k k a.1) r e
    exact ⟨b.1.trans a.1, b.2.trans a.2⟩
theorem uLP_sI {M : gM} {o : Option Nat} {j v : Int32} : uL_P M (sI M o j v) := fun k r e => by
  cases o with
  | none => cases e
  | some i =>
    unfold sI at e
    rw [Option.bind_some] at e
    split at e
    · obtain rfl := Option.some.inj e
      exact ⟨rfl, rfl⟩
    · cases e
theorem uLP_pI {c : Nat} {M : gM} {o : Option Nat} {j : Nat} {v : Int32} : uL_P M (pI c M o j v) := fun k r e => by
  cases o with
  | none => cases e
  | some i =>
    unfold pI at e
    rw [Option.bind_some] at e
    split at e
    · obtain rfl := Option.some.inj e
      exact ⟨rfl, rfl⟩
    · cases e
theorem uLP_sL {M : gM} {o : Option Nat} {j : Int32} {v : Int64} : uL_P M (sL M o j v) := fun k r e => by
  cases o with
  | none => cases e
  | some i =>
    unfold sL at e
    rw [Option.bind_some] at e
    split at e
    · rename_i c
      obtain rfl := Option.some.inj e
      refine ⟨rfl, g_up_ne _ _ _ (fun z => ?_)⟩
      rw [← z, k] at c
      exact absurd c.1 (by decide)
    · cases e
theorem UL_X12_words_b94 (l0 : Option Nat) (l1 : Int32) (l2 : Int32) (l3 : Int32) (s0 : Option Nat) (s1 : Int32) (s2 : Int64) (M : gM) : uL_P M (F_X12_words_b94 l0 l1 l2 l3 s0 s1 s2 M) := by
  delta F_X12_words_b94
  with_reducible repeat' (first | exact uLP_none | exact uLQ_none | exact uLP_some | exact uLQ_some | exact uLP_sI | exact uLP_pI | exact uLP_sL | refine uLP_ite ?_ ?_ | refine uLQ_ite ?_ ?_ | refine uLP_bM ?_ (fun _ => ?_) | refine uLQ_bM ?_ (fun _ => ?_) | refine uLP_bQ ?_ (fun _ _ => ?_) | refine uLQ_bQ ?_ (fun _ _ => ?_) | refine uLP_bind (fun _ => ?_) | refine uLQ_bind (fun _ => ?_) | dsimp only)
theorem UL_X12_words_b32 {k5 : Option Nat → Int32 → Int32 → Int32 → Int32 → gM → Option gM} (hk5 : ∀ (a0 : Option Nat) (a1 : Int32) (a2 : Int32) (a3 : Int32) (a4 : Int32) (M : gM), uL_P M (k5 a0 a1 a2 a3 a4 M)) (l0 : Option Nat) (l1 : Int32) (l2 : Int32) (l4 : Int32) (s0 : Int32) (s1 : Int32) (M : gM) : uL_P M (F_X12_words_b32 k5 l0 l1 l2 l4 s0 s1 M) := by
  delta F_X12_words_b32
  with_reducible repeat' (first | exact hk5 _ _ _ _ _ _ | exact uLP_none | exact uLQ_none | exact uLP_some | exact uLQ_some | exact uLP_sI | exact uLP_pI | exact uLP_sL | refine uLP_ite ?_ ?_ | refine uLQ_ite ?_ ?_ | refine uLP_bM ?_ (fun _ => ?_) | refine uLQ_bM ?_ (fun _ => ?_) | refine uLP_bQ ?_ (fun _ _ => ?_) | refine uLQ_bQ ?_ (fun _ _ => ?_) | refine uLP_bind (fun _ => ?_) | refine uLQ_bind (fun _ => ?_) | dsimp only)
theorem UL_X12_words_b5 {k5 : Option Nat → Int32 → Int32 → Int32 → Int32 → gM → Option gM} (hk5 : ∀ (a0 : Option Nat) (a1 : Int32) (a2 : Int32) (a3 : Int32) (a4 : Int32) (M : gM), uL_P M (k5 a0 a1 a2 a3 a4 M)) (l0 : Option Nat) (l1 : Int32) (l2 : Int32) (l3 : Int32) (l4 : Int32) (M : gM) : uL_P M (F_X12_words_b5 k5 l0 l1 l2 l3 l4 M) := by
  delta F_X12_words_b5
  with_reducible repeat' (first | exact hk5 _ _ _ _ _ _ | exact UL_X12_words_b94  _ _ _ _ _ _ _ _ | exact UL_X12_words_b32 (by assumption) _ _ _ _ _ _ _ | exact uLP_none | exact uLQ_none | exact uLP_some | exact uLQ_some | exact uLP_sI | exact uLP_pI | exact uLP_sL | refine uLP_ite ?_ ?_ | refine uLQ_ite ?_ ?_ | refine uLP_bM ?_ (fun _ => ?_) | refine uLQ_bM ?_ (fun _ => ?_) | refine uLP_bQ ?_ (fun _ _ => ?_) | refine uLQ_bQ ?_ (fun _ _ => ?_) | refine uLP_bind (fun _ => ?_) | refine uLQ_bind (fun _ => ?_) | dsimp only)
theorem UL_X12_words_L5  : ∀ (n : Nat) (a0 : Option Nat) (a1 : Int32) (a2 : Int32) (a3 : Int32) (a4 : Int32) (M : gM), uL_P M (F_X12_words_L5   n a0 a1 a2 a3 a4 M) := by
  intro n
  induction n with
  | zero => intro a0 a1 a2 a3 a4 M; exact uLP_none
  | succ n ih => intro a0 a1 a2 a3 a4 M; exact UL_X12_words_b5 ih _ _ _ _ _ _
theorem UL_X12_words_b0 (l0 : Option Nat) (l1 : Int32) (l2 : Int32) (M : gM) : uL_P M (F_X12_words_b0 l0 l1 l2 M) := by
  delta F_X12_words_b0
  with_reducible repeat' (first | exact UL_X12_words_L5  _ _ _ _ _ _ _ | exact uLP_none | exact uLQ_none | exact uLP_some | exact uLQ_some | exact uLP_sI | exact uLP_pI | exact uLP_sL | refine uLP_ite ?_ ?_ | refine uLQ_ite ?_ ?_ | refine uLP_bM ?_ (fun _ => ?_) | refine uLQ_bM ?_ (fun _ => ?_) | refine uLP_bQ ?_ (fun _ _ => ?_) | refine uLQ_bQ ?_ (fun _ _ => ?_) | refine uLP_bind (fun _ => ?_) | refine uLQ_bind (fun _ => ?_) | dsimp only)
theorem UL_X12_words (l0 : Option Nat) (l1 : Int32) (l2 : Int32) (M : gM) : uL_P M (F_X12_words l0 l1 l2 M) := by
  delta F_X12_words
  with_reducible repeat' (first | exact UL_X12_words_b0  _ _ _ _ | exact uLP_none | exact uLQ_none | exact uLP_some | exact uLQ_some | exact uLP_sI | exact uLP_pI | exact uLP_sL | refine uLP_ite ?_ ?_ | refine uLQ_ite ?_ ?_ | refine uLP_bM ?_ (fun _ => ?_) | refine uLQ_bM ?_ (fun _ => ?_) | refine uLP_bQ ?_ (fun _ _ => ?_) | refine uLQ_bQ ?_ (fun _ _ => ?_) | refine uLP_bind (fun _ => ?_) | refine uLQ_bind (fun _ => ?_) | dsimp only)
theorem UL_X12_push_b0 (l0 : Option Nat) (l1 : Int64) (M : gM) : uL_P M (F_X12_push_b0 l0 l1 M) := by
  delta F_X12_push_b0
  with_reducible repeat' (first | exact uLP_none | exact uLQ_none | exact uLP_some | exact uLQ_some | exact uLP_sI | exact uLP_pI | exact uLP_sL | refine uLP_ite ?_ ?_ | refine uLQ_ite ?_ ?_ | refine uLP_bM ?_ (fun _ => ?_) | refine uLQ_bM ?_ (fun _ => ?_) | refine uLP_bQ ?_ (fun _ _ => ?_) | refine uLQ_bQ ?_ (fun _ _ => ?_) | refine uLP_bind (fun _ => ?_) | refine uLQ_bind (fun _ => ?_) | dsimp only)
theorem UL_X12_push (l0 : Option Nat) (l1 : Int64) (M : gM) : uL_P M (F_X12_push l0 l1 M) := by
  delta F_X12_push
  with_reducible repeat' (first | exact UL_X12_push_b0  _ _ _ | exact uLP_none | exact uLQ_none | exact uLP_some | exact uLQ_some | exact uLP_sI | exact uLP_pI | exact uLP_sL | refine uLP_ite ?_ ?_ | refine uLQ_ite ?_ ?_ | refine uLP_bM ?_ (fun _ => ?_) | refine uLQ_bM ?_ (fun _ => ?_) | refine uLP_bQ ?_ (fun _ _ => ?_) | refine uLQ_bQ ?_ (fun _ _ => ?_) | refine uLP_bind (fun _ => ?_) | refine uLQ_bind (fun _ => ?_) | dsimp only)
theorem UL_X12_pop_b0 (l0 : Option Nat) (M : gM) : uL_Q M (F_X12_pop_b0 l0 M) := by
  delta F_X12_pop_b0
  with_reducible repeat' (first | exact uLP_none | exact uLQ_none | exact uLP_some | exact uLQ_some | exact uLP_sI | exact uLP_pI | exact uLP_sL | refine uLP_ite ?_ ?_ | refine uLQ_ite ?_ ?_ | refine uLP_bM ?_ (fun _ => ?_) | refine uLQ_bM ?_ (fun _ => ?_) | refine uLP_bQ ?_ (fun _ _ => ?_) | refine uLQ_bQ ?_ (fun _ _ => ?_) | refine uLP_bind (fun _ => ?_) | refine uLQ_bind (fun _ => ?_) | dsimp only)
theorem UL_X12_pop (l0 : Option Nat) (M : gM) : uL_Q M (F_X12_pop l0 M) := by
  delta F_X12_pop
  with_reducible repeat' (first | exact UL_X12_pop_b0  _ _ | exact uLP_none | exact uLQ_none | exact uLP_some | exact uLQ_some | exact uLP_sI | exact uLP_pI | exact uLP_sL | refine uLP_ite ?_ ?_ | refine uLQ_ite ?_ ?_ | refine uLP_bM ?_ (fun _ => ?_) | refine uLQ_bM ?_ (fun _ => ?_) | refine uLP_bQ ?_ (fun _ _ => ?_) | refine uLQ_bQ ?_ (fun _ _ => ?_) | refine uLP_bind (fun _ => ?_) | refine uLQ_bind (fun _ => ?_) | dsimp only)
theorem UL_X12_reckons_b129 {k8 : Option Nat → Int32 → Int32 → Int32 → gM → Option (Int64 × gM)} (hk8 : ∀ (a0 : Option Nat) (a1 : Int32) (a2 : Int32) (a3 : Int32) (M : gM), uL_Q M (k8 a0 a1 a2 a3 M)) (l0 : Option Nat) (l1 : Int32) (l3 : Int32) (l4 : Int32) (M : gM) : uL_Q M (F_X12_reckons_b129 k8 l0 l1 l3 l4 M) := by
  delta F_X12_reckons_b129
  with_reducible repeat' (first | exact hk8 _ _ _ _ _ | exact uLP_none | exact uLQ_none | exact uLP_some | exact uLQ_some | exact uLP_sI | exact uLP_pI | exact uLP_sL | refine uLP_ite ?_ ?_ | refine uLQ_ite ?_ ?_ | refine uLP_bM ?_ (fun _ => ?_) | refine uLQ_bM ?_ (fun _ => ?_) | refine uLP_bQ ?_ (fun _ _ => ?_) | refine uLQ_bQ ?_ (fun _ _ => ?_) | refine uLP_bind (fun _ => ?_) | refine uLQ_bind (fun _ => ?_) | dsimp only)
theorem UL_X12_reckons_b8 {k8 : Option Nat → Int32 → Int32 → Int32 → gM → Option (Int64 × gM)} (hk8 : ∀ (a0 : Option Nat) (a1 : Int32) (a2 : Int32) (a3 : Int32) (M : gM), uL_Q M (k8 a0 a1 a2 a3 M)) (l0 : Option Nat) (l1 : Int32) (l3 : Int32) (l4 : Int32) (M : gM) : uL_Q M (F_X12_reckons_b8 k8 l0 l1 l3 l4 M) := by
  delta F_X12_reckons_b8
  with_reducible repeat' (first | exact hk8 _ _ _ _ _ | exact UL_X12_pop  _ _ | exact UL_X12_push  _ _ _ | exact UL_X12_reckons_b129 (by assumption) _ _ _ _ _ | exact uLP_none | exact uLQ_none | exact uLP_some | exact uLQ_some | exact uLP_sI | exact uLP_pI | exact uLP_sL | refine uLP_ite ?_ ?_ | refine uLQ_ite ?_ ?_ | refine uLP_bM ?_ (fun _ => ?_) | refine uLQ_bM ?_ (fun _ => ?_) | refine uLP_bQ ?_ (fun _ _ => ?_) | refine uLQ_bQ ?_ (fun _ _ => ?_) | refine uLP_bind (fun _ => ?_) | refine uLQ_bind (fun _ => ?_) | dsimp only)
theorem UL_X12_reckons_L8  : ∀ (n : Nat) (a0 : Option Nat) (a1 : Int32) (a2 : Int32) (a3 : Int32) (M : gM), uL_Q M (F_X12_reckons_L8   n a0 a1 a2 a3 M) := by
  intro n
  induction n with
  | zero => intro a0 a1 a2 a3 M; exact uLQ_none
  | succ n ih => intro a0 a1 a2 a3 M; exact UL_X12_reckons_b8 ih _ _ _ _ _
theorem UL_X12_reckons_b0 (l0 : Option Nat) (l1 : Int32) (l2 : Int32) (l3 : Int32) (M : gM) : uL_Q M (F_X12_reckons_b0 l0 l1 l2 l3 M) := by
  delta F_X12_reckons_b0
  with_reducible repeat' (first | exact UL_X12_reckons_L8  _ _ _ _ _ _ | exact uLP_none | exact uLQ_none | exact uLP_some | exact uLQ_some | exact uLP_sI | exact uLP_pI | exact uLP_sL | refine uLP_ite ?_ ?_ | refine uLQ_ite ?_ ?_ | refine uLP_bM ?_ (fun _ => ?_) | refine uLQ_bM ?_ (fun _ => ?_) | refine uLP_bQ ?_ (fun _ _ => ?_) | refine uLQ_bQ ?_ (fun _ _ => ?_) | refine uLP_bind (fun _ => ?_) | refine uLQ_bind (fun _ => ?_) | dsimp only)
theorem UL_X12_reckons (l0 : Option Nat) (l1 : Int32) (l2 : Int32) (l3 : Int32) (M : gM) : uL_Q M (F_X12_reckons l0 l1 l2 l3 M) := by
  delta F_X12_reckons
  with_reducible repeat' (first | exact UL_X12_reckons_b0  _ _ _ _ _ | exact uLP_none | exact uLQ_none | exact uLP_some | exact uLQ_some | exact uLP_sI | exact uLP_pI | exact uLP_sL | refine uLP_ite ?_ ?_ | refine uLQ_ite ?_ ?_ | refine uLP_bM ?_ (fun _ => ?_) | refine uLQ_bM ?_ (fun _ => ?_) | refine uLP_bQ ?_ (fun _ _ => ?_) | refine uLQ_bQ ?_ (fun _ _ => ?_) | refine uLP_bind (fun _ => ?_) | refine uLQ_bind (fun _ => ?_) | dsimp only)
theorem UL_X12_summedBy_b58 (l0 : Option Nat) (l1 : Int32) (l3 : Int32) (M : gM) : uL_Q M (F_X12_summedBy_b58 l0 l1 l3 M) := by
  delta F_X12_summedBy_b58
  with_reducible repeat' (first | exact UL_X12_reckons  _ _ _ _ _ | exact uLP_none | exact uLQ_none | exact uLP_some | exact uLQ_some | exact uLP_sI | exact uLP_pI | exact uLP_sL | refine uLP_ite ?_ ?_ | refine uLQ_ite ?_ ?_ | refine uLP_bM ?_ (fun _ => ?_) | refine uLQ_bM ?_ (fun _ => ?_) | refine uLP_bQ ?_ (fun _ _ => ?_) | refine uLQ_bQ ?_ (fun _ _ => ?_) | refine uLP_bind (fun _ => ?_) | refine uLQ_bind (fun _ => ?_) | dsimp only)
theorem UL_X12_summedBy_b2 {k2 : Option Nat → Int32 → Int32 → gM → Option (Int64 × gM)} (hk2 : ∀ (a0 : Option Nat) (a1 : Int32) (a2 : Int32) (M : gM), uL_Q M (k2 a0 a1 a2 M)) (l0 : Option Nat) (l1 : Int32) (l2 : Int32) (M : gM) : uL_Q M (F_X12_summedBy_b2 k2 l0 l1 l2 M) := by
  delta F_X12_summedBy_b2
  with_reducible repeat' (first | exact hk2 _ _ _ _ | exact UL_X12_summedBy_b58  _ _ _ _ | exact UL_X12_reckons  _ _ _ _ _ | exact uLP_none | exact uLQ_none | exact uLP_some | exact uLQ_some | exact uLP_sI | exact uLP_pI | exact uLP_sL | refine uLP_ite ?_ ?_ | refine uLQ_ite ?_ ?_ | refine uLP_bM ?_ (fun _ => ?_) | refine uLQ_bM ?_ (fun _ => ?_) | refine uLP_bQ ?_ (fun _ _ => ?_) | refine uLQ_bQ ?_ (fun _ _ => ?_) | refine uLP_bind (fun _ => ?_) | refine uLQ_bind (fun _ => ?_) | dsimp only)
theorem UL_X12_summedBy_L2  : ∀ (n : Nat) (a0 : Option Nat) (a1 : Int32) (a2 : Int32) (M : gM), uL_Q M (F_X12_summedBy_L2   n a0 a1 a2 M) := by
  intro n
  induction n with
  | zero => intro a0 a1 a2 M; exact uLQ_none
  | succ n ih => intro a0 a1 a2 M; exact UL_X12_summedBy_b2 ih _ _ _ _
theorem UL_X12_summedBy_b0 (l0 : Option Nat) (l1 : Int32) (M : gM) : uL_Q M (F_X12_summedBy_b0 l0 l1 M) := by
  delta F_X12_summedBy_b0
  with_reducible repeat' (first | exact UL_X12_summedBy_L2  _ _ _ _ _ | exact uLP_none | exact uLQ_none | exact uLP_some | exact uLQ_some | exact uLP_sI | exact uLP_pI | exact uLP_sL | refine uLP_ite ?_ ?_ | refine uLQ_ite ?_ ?_ | refine uLP_bM ?_ (fun _ => ?_) | refine uLQ_bM ?_ (fun _ => ?_) | refine uLP_bQ ?_ (fun _ _ => ?_) | refine uLQ_bQ ?_ (fun _ _ => ?_) | refine uLP_bind (fun _ => ?_) | refine uLQ_bind (fun _ => ?_) | dsimp only)
theorem UL_X12_summedBy (l0 : Option Nat) (l1 : Int32) (M : gM) : uL_Q M (F_X12_summedBy l0 l1 M) := by
  delta F_X12_summedBy
  with_reducible repeat' (first | exact UL_X12_summedBy_b0  _ _ _ | exact uLP_none | exact uLQ_none | exact uLP_some | exact uLQ_some | exact uLP_sI | exact uLP_pI | exact uLP_sL | refine uLP_ite ?_ ?_ | refine uLQ_ite ?_ ?_ | refine uLP_bM ?_ (fun _ => ?_) | refine uLQ_bM ?_ (fun _ => ?_) | refine uLP_bQ ?_ (fun _ _ => ?_) | refine uLQ_bQ ?_ (fun _ _ => ?_) | refine uLP_bind (fun _ => ?_) | refine uLQ_bind (fun _ => ?_) | dsimp only)
theorem UL_X12_lossOf_b0 (l0 : Option Nat) (l1 : Int32) (l2 : Int32) (M : gM) : uL_Q M (F_X12_lossOf_b0 l0 l1 l2 M) := by
  delta F_X12_lossOf_b0
  with_reducible repeat' (first | exact UL_X12_words  _ _ _ _ | exact UL_X12_summedBy  _ _ _ | exact uLP_none | exact uLQ_none | exact uLP_some | exact uLQ_some | exact uLP_sI | exact uLP_pI | exact uLP_sL | refine uLP_ite ?_ ?_ | refine uLQ_ite ?_ ?_ | refine uLP_bM ?_ (fun _ => ?_) | refine uLQ_bM ?_ (fun _ => ?_) | refine uLP_bQ ?_ (fun _ _ => ?_) | refine uLQ_bQ ?_ (fun _ _ => ?_) | refine uLP_bind (fun _ => ?_) | refine uLQ_bind (fun _ => ?_) | dsimp only)
theorem UL_X12_lossOf (l0 : Option Nat) (l1 : Int32) (l2 : Int32) (M : gM) : uL_Q M (F_X12_lossOf l0 l1 l2 M) := by
  delta F_X12_lossOf
  with_reducible repeat' (first | exact UL_X12_lossOf_b0  _ _ _ _ | exact uLP_none | exact uLQ_none | exact uLP_some | exact uLQ_some | exact uLP_sI | exact uLP_pI | exact uLP_sL | refine uLP_ite ?_ ?_ | refine uLQ_ite ?_ ?_ | refine uLP_bM ?_ (fun _ => ?_) | refine uLQ_bM ?_ (fun _ => ?_) | refine uLP_bQ ?_ (fun _ _ => ?_) | refine uLQ_bQ ?_ (fun _ _ => ?_) | refine uLP_bind (fun _ => ?_) | refine uLQ_bind (fun _ => ?_) | dsimp only)
theorem UL_X12_knowsNow_b54 (s0 : Option Nat) (s1 : Int32) (s2 : Int32) (M : gM) : uL_P M (F_X12_knowsNow_b54 s0 s1 s2 M) := by
  delta F_X12_knowsNow_b54
  with_reducible repeat' (first | exact uLP_none | exact uLQ_none | exact uLP_some | exact uLQ_some | exact uLP_sI | exact uLP_pI | exact uLP_sL | refine uLP_ite ?_ ?_ | refine uLQ_ite ?_ ?_ | refine uLP_bM ?_ (fun _ => ?_) | refine uLQ_bM ?_ (fun _ => ?_) | refine uLP_bQ ?_ (fun _ _ => ?_) | refine uLQ_bQ ?_ (fun _ _ => ?_) | refine uLP_bind (fun _ => ?_) | refine uLQ_bind (fun _ => ?_) | dsimp only)
theorem UL_X12_knowsNow_b25 (l0 : Option Nat) (l1 : Int32) (l2 : Int32) (l4 : Int32) (s0 : Option Nat) (s1 : Int32) (s2 : Int32) (M : gM) : uL_P M (F_X12_knowsNow_b25 l0 l1 l2 l4 s0 s1 s2 M) := by
  delta F_X12_knowsNow_b25
  with_reducible repeat' (first | exact UL_X12_knowsNow_b54  _ _ _ _ | exact uLP_none | exact uLQ_none | exact uLP_some | exact uLQ_some | exact uLP_sI | exact uLP_pI | exact uLP_sL | refine uLP_ite ?_ ?_ | refine uLQ_ite ?_ ?_ | refine uLP_bM ?_ (fun _ => ?_) | refine uLQ_bM ?_ (fun _ => ?_) | refine uLP_bQ ?_ (fun _ _ => ?_) | refine uLQ_bQ ?_ (fun _ _ => ?_) | refine uLP_bind (fun _ => ?_) | refine uLQ_bind (fun _ => ?_) | dsimp only)
theorem UL_X12_knowsNow_b0 (l0 : Option Nat) (l1 : Int32) (l2 : Int32) (l3 : Int32) (l4 : Int32) (M : gM) : uL_P M (F_X12_knowsNow_b0 l0 l1 l2 l3 l4 M) := by
  delta F_X12_knowsNow_b0
  with_reducible repeat' (first | exact UL_X12_knowsNow_b25  _ _ _ _ _ _ _ _ | exact uLP_none | exact uLQ_none | exact uLP_some | exact uLQ_some | exact uLP_sI | exact uLP_pI | exact uLP_sL | refine uLP_ite ?_ ?_ | refine uLQ_ite ?_ ?_ | refine uLP_bM ?_ (fun _ => ?_) | refine uLQ_bM ?_ (fun _ => ?_) | refine uLP_bQ ?_ (fun _ _ => ?_) | refine uLQ_bQ ?_ (fun _ _ => ?_) | refine uLP_bind (fun _ => ?_) | refine uLQ_bind (fun _ => ?_) | dsimp only)
theorem UL_X12_knowsNow (l0 : Option Nat) (l1 : Int32) (l2 : Int32) (l3 : Int32) (l4 : Int32) (M : gM) : uL_P M (F_X12_knowsNow l0 l1 l2 l3 l4 M) := by
  delta F_X12_knowsNow
  with_reducible repeat' (first | exact UL_X12_knowsNow_b0  _ _ _ _ _ _ | exact uLP_none | exact uLQ_none | exact uLP_some | exact uLQ_some | exact uLP_sI | exact uLP_pI | exact uLP_sL | refine uLP_ite ?_ ?_ | refine uLQ_ite ?_ ?_ | refine uLP_bM ?_ (fun _ => ?_) | refine uLQ_bM ?_ (fun _ => ?_) | refine uLP_bQ ?_ (fun _ _ => ?_) | refine uLQ_bQ ?_ (fun _ _ => ?_) | refine uLP_bind (fun _ => ?_) | refine uLQ_bind (fun _ => ?_) | dsimp only)
theorem UL_X12_passes_b228 {k176 : Option Nat → Int32 → Int32 → gM → Option (Int32 × gM)} (hk176 : ∀ (a0 : Option Nat) (a1 : Int32) (a2 : Int32) (M : gM), uL_Q M (k176 a0 a1 a2 M)) (l0 : Option Nat) (l1 : Int32) (l2 : Int32) (M : gM) : uL_Q M (F_X12_passes_b228 k176 l0 l1 l2 M) := by
  delta F_X12_passes_b228
  with_reducible repeat' (first | exact hk176 _ _ _ _ | exact uLP_none | exact uLQ_none | exact uLP_some | exact uLQ_some | exact uLP_sI | exact uLP_pI | exact uLP_sL | refine uLP_ite ?_ ?_ | refine uLQ_ite ?_ ?_ | refine uLP_bM ?_ (fun _ => ?_) | refine uLQ_bM ?_ (fun _ => ?_) | refine uLP_bQ ?_ (fun _ _ => ?_) | refine uLQ_bQ ?_ (fun _ _ => ?_) | refine uLP_bind (fun _ => ?_) | refine uLQ_bind (fun _ => ?_) | dsimp only)
theorem UL_X12_passes_b176 {k176 : Option Nat → Int32 → Int32 → gM → Option (Int32 × gM)} (hk176 : ∀ (a0 : Option Nat) (a1 : Int32) (a2 : Int32) (M : gM), uL_Q M (k176 a0 a1 a2 M)) (l0 : Option Nat) (l1 : Int32) (l2 : Int32) (M : gM) : uL_Q M (F_X12_passes_b176 k176 l0 l1 l2 M) := by
  delta F_X12_passes_b176
  with_reducible repeat' (first | exact hk176 _ _ _ _ | exact UL_X12_passes_b228 (by assumption) _ _ _ _ | exact uLP_none | exact uLQ_none | exact uLP_some | exact uLQ_some | exact uLP_sI | exact uLP_pI | exact uLP_sL | refine uLP_ite ?_ ?_ | refine uLQ_ite ?_ ?_ | refine uLP_bM ?_ (fun _ => ?_) | refine uLQ_bM ?_ (fun _ => ?_) | refine uLP_bQ ?_ (fun _ _ => ?_) | refine uLQ_bQ ?_ (fun _ _ => ?_) | refine uLP_bind (fun _ => ?_) | refine uLQ_bind (fun _ => ?_) | dsimp only)
theorem UL_X12_passes_L176  : ∀ (n : Nat) (a0 : Option Nat) (a1 : Int32) (a2 : Int32) (M : gM), uL_Q M (F_X12_passes_L176   n a0 a1 a2 M) := by
  intro n
  induction n with
  | zero => intro a0 a1 a2 M; exact uLQ_none
  | succ n ih => intro a0 a1 a2 M; exact UL_X12_passes_b176 ih _ _ _ _
theorem UL_X12_passes_b168 {k70 : Option Nat → Int32 → Int32 → gM → Option (Int32 × gM)} (hk70 : ∀ (a0 : Option Nat) (a1 : Int32) (a2 : Int32) (M : gM), uL_Q M (k70 a0 a1 a2 M)) (l0 : Option Nat) (l1 : Int32) (l2 : Int32) (M : gM) : uL_Q M (F_X12_passes_b168 k70 l0 l1 l2 M) := by
  delta F_X12_passes_b168
  with_reducible repeat' (first | exact hk70 _ _ _ _ | exact uLP_none | exact uLQ_none | exact uLP_some | exact uLQ_some | exact uLP_sI | exact uLP_pI | exact uLP_sL | refine uLP_ite ?_ ?_ | refine uLQ_ite ?_ ?_ | refine uLP_bM ?_ (fun _ => ?_) | refine uLQ_bM ?_ (fun _ => ?_) | refine uLP_bQ ?_ (fun _ _ => ?_) | refine uLQ_bQ ?_ (fun _ _ => ?_) | refine uLP_bind (fun _ => ?_) | refine uLQ_bind (fun _ => ?_) | dsimp only)
theorem UL_X12_passes_b131 {k70 : Option Nat → Int32 → Int32 → gM → Option (Int32 × gM)} {k82 : Option Nat → Int32 → Int32 → Int32 → gM → Option (Int32 × gM)} (hk70 : ∀ (a0 : Option Nat) (a1 : Int32) (a2 : Int32) (M : gM), uL_Q M (k70 a0 a1 a2 M)) (hk82 : ∀ (a0 : Option Nat) (a1 : Int32) (a2 : Int32) (a3 : Int32) (M : gM), uL_Q M (k82 a0 a1 a2 a3 M)) (l0 : Option Nat) (l1 : Int32) (l2 : Int32) (l3 : Int32) (M : gM) : uL_Q M (F_X12_passes_b131 k70 k82 l0 l1 l2 l3 M) := by
  delta F_X12_passes_b131
  with_reducible repeat' (first | exact hk70 _ _ _ _ | exact hk82 _ _ _ _ _ | exact uLP_none | exact uLQ_none | exact uLP_some | exact uLQ_some | exact uLP_sI | exact uLP_pI | exact uLP_sL | refine uLP_ite ?_ ?_ | refine uLQ_ite ?_ ?_ | refine uLP_bM ?_ (fun _ => ?_) | refine uLQ_bM ?_ (fun _ => ?_) | refine uLP_bQ ?_ (fun _ _ => ?_) | refine uLQ_bQ ?_ (fun _ _ => ?_) | refine uLP_bind (fun _ => ?_) | refine uLQ_bind (fun _ => ?_) | dsimp only)
theorem UL_X12_passes_b82 {k70 : Option Nat → Int32 → Int32 → gM → Option (Int32 × gM)} {k82 : Option Nat → Int32 → Int32 → Int32 → gM → Option (Int32 × gM)} (hk70 : ∀ (a0 : Option Nat) (a1 : Int32) (a2 : Int32) (M : gM), uL_Q M (k70 a0 a1 a2 M)) (hk82 : ∀ (a0 : Option Nat) (a1 : Int32) (a2 : Int32) (a3 : Int32) (M : gM), uL_Q M (k82 a0 a1 a2 a3 M)) (l0 : Option Nat) (l1 : Int32) (l2 : Int32) (l3 : Int32) (M : gM) : uL_Q M (F_X12_passes_b82 k70 k82 l0 l1 l2 l3 M) := by
  delta F_X12_passes_b82
  with_reducible repeat' (first | exact hk70 _ _ _ _ | exact hk82 _ _ _ _ _ | exact UL_X12_passes_b168 (by assumption) _ _ _ _ | exact UL_X12_passes_b131 (by assumption) (by assumption) _ _ _ _ _ | exact UL_X12_knowsNow  _ _ _ _ _ _ | exact uLP_none | exact uLQ_none | exact uLP_some | exact uLQ_some | exact uLP_sI | exact uLP_pI | exact uLP_sL | refine uLP_ite ?_ ?_ | refine uLQ_ite ?_ ?_ | refine uLP_bM ?_ (fun _ => ?_) | refine uLQ_bM ?_ (fun _ => ?_) | refine uLP_bQ ?_ (fun _ _ => ?_) | refine uLQ_bQ ?_ (fun _ _ => ?_) | refine uLP_bind (fun _ => ?_) | refine uLQ_bind (fun _ => ?_) | dsimp only)
theorem UL_X12_passes_L82 {k70 : Option Nat → Int32 → Int32 → gM → Option (Int32 × gM)} (hk70 : ∀ (a0 : Option Nat) (a1 : Int32) (a2 : Int32) (M : gM), uL_Q M (k70 a0 a1 a2 M))  : ∀ (n : Nat) (a0 : Option Nat) (a1 : Int32) (a2 : Int32) (a3 : Int32) (M : gM), uL_Q M (F_X12_passes_L82 k70  n a0 a1 a2 a3 M) := by
  intro n
  induction n with
  | zero => intro a0 a1 a2 a3 M; exact uLQ_none
  | succ n ih => intro a0 a1 a2 a3 M; exact UL_X12_passes_b82 hk70 ih _ _ _ _ _
theorem UL_X12_passes_b70 {k70 : Option Nat → Int32 → Int32 → gM → Option (Int32 × gM)} (hk70 : ∀ (a0 : Option Nat) (a1 : Int32) (a2 : Int32) (M : gM), uL_Q M (k70 a0 a1 a2 M)) (l0 : Option Nat) (l1 : Int32) (l2 : Int32) (M : gM) : uL_Q M (F_X12_passes_b70 k70 l0 l1 l2 M) := by
  delta F_X12_passes_b70
  with_reducible repeat' (first | exact hk70 _ _ _ _ | exact UL_X12_passes_L176  _ _ _ _ _ | exact UL_X12_passes_L82 (by assumption) _ _ _ _ _ _ | exact uLP_none | exact uLQ_none | exact uLP_some | exact uLQ_some | exact uLP_sI | exact uLP_pI | exact uLP_sL | refine uLP_ite ?_ ?_ | refine uLQ_ite ?_ ?_ | refine uLP_bM ?_ (fun _ => ?_) | refine uLQ_bM ?_ (fun _ => ?_) | refine uLP_bQ ?_ (fun _ _ => ?_) | refine uLQ_bQ ?_ (fun _ _ => ?_) | refine uLP_bind (fun _ => ?_) | refine uLQ_bind (fun _ => ?_) | dsimp only)
theorem UL_X12_passes_L70  : ∀ (n : Nat) (a0 : Option Nat) (a1 : Int32) (a2 : Int32) (M : gM), uL_Q M (F_X12_passes_L70   n a0 a1 a2 M) := by
  intro n
  induction n with
  | zero => intro a0 a1 a2 M; exact uLQ_none
  | succ n ih => intro a0 a1 a2 M; exact UL_X12_passes_b70 ih _ _ _ _
theorem UL_X12_passes_b55 {k4 : Option Nat → Int32 → Int32 → gM → Option (Int32 × gM)} {k16 : Option Nat → Int32 → Int32 → Int32 → gM → Option (Int32 × gM)} (hk4 : ∀ (a0 : Option Nat) (a1 : Int32) (a2 : Int32) (M : gM), uL_Q M (k4 a0 a1 a2 M)) (hk16 : ∀ (a0 : Option Nat) (a1 : Int32) (a2 : Int32) (a3 : Int32) (M : gM), uL_Q M (k16 a0 a1 a2 a3 M)) (l0 : Option Nat) (l1 : Int32) (l2 : Int32) (l3 : Int32) (s0 : Option Nat) (s1 : Int32) (s2 : Int32) (M : gM) : uL_Q M (F_X12_passes_b55 k4 k16 l0 l1 l2 l3 s0 s1 s2 M) := by
  delta F_X12_passes_b55
  with_reducible repeat' (first | exact hk4 _ _ _ _ | exact hk16 _ _ _ _ _ | exact uLP_none | exact uLQ_none | exact uLP_some | exact uLQ_some | exact uLP_sI | exact uLP_pI | exact uLP_sL | refine uLP_ite ?_ ?_ | refine uLQ_ite ?_ ?_ | refine uLP_bM ?_ (fun _ => ?_) | refine uLQ_bM ?_ (fun _ => ?_) | refine uLP_bQ ?_ (fun _ _ => ?_) | refine uLQ_bQ ?_ (fun _ _ => ?_) | refine uLP_bind (fun _ => ?_) | refine uLQ_bind (fun _ => ?_) | dsimp only)
theorem UL_X12_passes_b16 {k4 : Option Nat → Int32 → Int32 → gM → Option (Int32 × gM)} {k16 : Option Nat → Int32 → Int32 → Int32 → gM → Option (Int32 × gM)} (hk4 : ∀ (a0 : Option Nat) (a1 : Int32) (a2 : Int32) (M : gM), uL_Q M (k4 a0 a1 a2 M)) (hk16 : ∀ (a0 : Option Nat) (a1 : Int32) (a2 : Int32) (a3 : Int32) (M : gM), uL_Q M (k16 a0 a1 a2 a3 M)) (l0 : Option Nat) (l1 : Int32) (l2 : Int32) (l3 : Int32) (M : gM) : uL_Q M (F_X12_passes_b16 k4 k16 l0 l1 l2 l3 M) := by
  delta F_X12_passes_b16
  with_reducible repeat' (first | exact hk4 _ _ _ _ | exact hk16 _ _ _ _ _ | exact UL_X12_passes_b55 (by assumption) (by assumption) _ _ _ _ _ _ _ _ | exact UL_X12_lossOf  _ _ _ _ | exact uLP_none | exact uLQ_none | exact uLP_some | exact uLQ_some | exact uLP_sI | exact uLP_pI | exact uLP_sL | refine uLP_ite ?_ ?_ | refine uLQ_ite ?_ ?_ | refine uLP_bM ?_ (fun _ => ?_) | refine uLQ_bM ?_ (fun _ => ?_) | refine uLP_bQ ?_ (fun _ _ => ?_) | refine uLQ_bQ ?_ (fun _ _ => ?_) | refine uLP_bind (fun _ => ?_) | refine uLQ_bind (fun _ => ?_) | dsimp only)
theorem UL_X12_passes_L16 {k4 : Option Nat → Int32 → Int32 → gM → Option (Int32 × gM)} (hk4 : ∀ (a0 : Option Nat) (a1 : Int32) (a2 : Int32) (M : gM), uL_Q M (k4 a0 a1 a2 M))  : ∀ (n : Nat) (a0 : Option Nat) (a1 : Int32) (a2 : Int32) (a3 : Int32) (M : gM), uL_Q M (F_X12_passes_L16 k4  n a0 a1 a2 a3 M) := by
  intro n
  induction n with
  | zero => intro a0 a1 a2 a3 M; exact uLQ_none
  | succ n ih => intro a0 a1 a2 a3 M; exact UL_X12_passes_b16 hk4 ih _ _ _ _ _
theorem UL_X12_passes_b4 {k4 : Option Nat → Int32 → Int32 → gM → Option (Int32 × gM)} (hk4 : ∀ (a0 : Option Nat) (a1 : Int32) (a2 : Int32) (M : gM), uL_Q M (k4 a0 a1 a2 M)) (l0 : Option Nat) (l1 : Int32) (l2 : Int32) (M : gM) : uL_Q M (F_X12_passes_b4 k4 l0 l1 l2 M) := by
  delta F_X12_passes_b4
  with_reducible repeat' (first | exact hk4 _ _ _ _ | exact UL_X12_passes_L70  _ _ _ _ _ | exact UL_X12_passes_L16 (by assumption) _ _ _ _ _ _ | exact uLP_none | exact uLQ_none | exact uLP_some | exact uLQ_some | exact uLP_sI | exact uLP_pI | exact uLP_sL | refine uLP_ite ?_ ?_ | refine uLQ_ite ?_ ?_ | refine uLP_bM ?_ (fun _ => ?_) | refine uLQ_bM ?_ (fun _ => ?_) | refine uLP_bQ ?_ (fun _ _ => ?_) | refine uLQ_bQ ?_ (fun _ _ => ?_) | refine uLP_bind (fun _ => ?_) | refine uLQ_bind (fun _ => ?_) | dsimp only)
theorem UL_X12_passes_L4  : ∀ (n : Nat) (a0 : Option Nat) (a1 : Int32) (a2 : Int32) (M : gM), uL_Q M (F_X12_passes_L4   n a0 a1 a2 M) := by
  intro n
  induction n with
  | zero => intro a0 a1 a2 M; exact uLQ_none
  | succ n ih => intro a0 a1 a2 M; exact UL_X12_passes_b4 ih _ _ _ _
theorem UL_X12_passes_b0 (l0 : Option Nat) (M : gM) : uL_Q M (F_X12_passes_b0 l0 M) := by
  delta F_X12_passes_b0
  with_reducible repeat' (first | exact UL_X12_passes_L4  _ _ _ _ _ | exact uLP_none | exact uLQ_none | exact uLP_some | exact uLQ_some | exact uLP_sI | exact uLP_pI | exact uLP_sL | refine uLP_ite ?_ ?_ | refine uLQ_ite ?_ ?_ | refine uLP_bM ?_ (fun _ => ?_) | refine uLQ_bM ?_ (fun _ => ?_) | refine uLP_bQ ?_ (fun _ _ => ?_) | refine uLQ_bQ ?_ (fun _ _ => ?_) | refine uLP_bind (fun _ => ?_) | refine uLQ_bind (fun _ => ?_) | dsimp only)
theorem UL_X12_passes (l0 : Option Nat) (M : gM) : uL_Q M (F_X12_passes l0 M) := by
  delta F_X12_passes
  with_reducible repeat' (first | exact UL_X12_passes_b0  _ _ | exact uLP_none | exact uLQ_none | exact uLP_some | exact uLQ_some | exact uLP_sI | exact uLP_pI | exact uLP_sL | refine uLP_ite ?_ ?_ | refine uLQ_ite ?_ ?_ | refine uLP_bM ?_ (fun _ => ?_) | refine uLQ_bM ?_ (fun _ => ?_) | refine uLP_bQ ?_ (fun _ _ => ?_) | refine uLQ_bQ ?_ (fun _ _ => ?_) | refine uLP_bind (fun _ => ?_) | refine uLQ_bind (fun _ => ?_) | dsimp only)
theorem UL_X12_keeps_b2 {k2 : Option Nat → Int32 → gM → Option gM} (hk2 : ∀ (a0 : Option Nat) (a1 : Int32) (M : gM), uL_P M (k2 a0 a1 M)) (l0 : Option Nat) (l1 : Int32) (M : gM) : uL_P M (F_X12_keeps_b2 k2 l0 l1 M) := by
  delta F_X12_keeps_b2
  with_reducible repeat' (first | exact hk2 _ _ _ | exact uLP_none | exact uLQ_none | exact uLP_some | exact uLQ_some | exact uLP_sI | exact uLP_pI | exact uLP_sL | refine uLP_ite ?_ ?_ | refine uLQ_ite ?_ ?_ | refine uLP_bM ?_ (fun _ => ?_) | refine uLQ_bM ?_ (fun _ => ?_) | refine uLP_bQ ?_ (fun _ _ => ?_) | refine uLQ_bQ ?_ (fun _ _ => ?_) | refine uLP_bind (fun _ => ?_) | refine uLQ_bind (fun _ => ?_) | dsimp only)
theorem UL_X12_keeps_L2  : ∀ (n : Nat) (a0 : Option Nat) (a1 : Int32) (M : gM), uL_P M (F_X12_keeps_L2   n a0 a1 M) := by
  intro n
  induction n with
  | zero => intro a0 a1 M; exact uLP_none
  | succ n ih => intro a0 a1 M; exact UL_X12_keeps_b2 ih _ _ _
theorem UL_X12_keeps_b0 (l0 : Option Nat) (M : gM) : uL_P M (F_X12_keeps_b0 l0 M) := by
  delta F_X12_keeps_b0
  with_reducible repeat' (first | exact UL_X12_keeps_L2  _ _ _ _ | exact uLP_none | exact uLQ_none | exact uLP_some | exact uLQ_some | exact uLP_sI | exact uLP_pI | exact uLP_sL | refine uLP_ite ?_ ?_ | refine uLQ_ite ?_ ?_ | refine uLP_bM ?_ (fun _ => ?_) | refine uLQ_bM ?_ (fun _ => ?_) | refine uLP_bQ ?_ (fun _ _ => ?_) | refine uLQ_bQ ?_ (fun _ _ => ?_) | refine uLP_bind (fun _ => ?_) | refine uLQ_bind (fun _ => ?_) | dsimp only)
theorem UL_X12_keeps (l0 : Option Nat) (M : gM) : uL_P M (F_X12_keeps l0 M) := by
  delta F_X12_keeps
  with_reducible repeat' (first | exact UL_X12_keeps_b0  _ _ | exact uLP_none | exact uLQ_none | exact uLP_some | exact uLQ_some | exact uLP_sI | exact uLP_pI | exact uLP_sL | refine uLP_ite ?_ ?_ | refine uLQ_ite ?_ ?_ | refine uLP_bM ?_ (fun _ => ?_) | refine uLQ_bM ?_ (fun _ => ?_) | refine uLP_bQ ?_ (fun _ _ => ?_) | refine uLQ_bQ ?_ (fun _ _ => ?_) | refine uLP_bind (fun _ => ?_) | refine uLQ_bind (fun _ => ?_) | dsimp only)
theorem UL_X12_laysBack_b2 {k2 : Option Nat → Int32 → gM → Option gM} (hk2 : ∀ (a0 : Option Nat) (a1 : Int32) (M : gM), uL_P M (k2 a0 a1 M)) (l0 : Option Nat) (l1 : Int32) (M : gM) : uL_P M (F_X12_laysBack_b2 k2 l0 l1 M) := by
  delta F_X12_laysBack_b2
  with_reducible repeat' (first | exact hk2 _ _ _ | exact uLP_none | exact uLQ_none | exact uLP_some | exact uLQ_some | exact uLP_sI | exact uLP_pI | exact uLP_sL | refine uLP_ite ?_ ?_ | refine uLQ_ite ?_ ?_ | refine uLP_bM ?_ (fun _ => ?_) | refine uLQ_bM ?_ (fun _ => ?_) | refine uLP_bQ ?_ (fun _ _ => ?_) | refine uLQ_bQ ?_ (fun _ _ => ?_) | refine uLP_bind (fun _ => ?_) | refine uLQ_bind (fun _ => ?_) | dsimp only)
theorem UL_X12_laysBack_L2  : ∀ (n : Nat) (a0 : Option Nat) (a1 : Int32) (M : gM), uL_P M (F_X12_laysBack_L2   n a0 a1 M) := by
  intro n
  induction n with
  | zero => intro a0 a1 M; exact uLP_none
  | succ n ih => intro a0 a1 M; exact UL_X12_laysBack_b2 ih _ _ _
theorem UL_X12_laysBack_b0 (l0 : Option Nat) (M : gM) : uL_P M (F_X12_laysBack_b0 l0 M) := by
  delta F_X12_laysBack_b0
  with_reducible repeat' (first | exact UL_X12_laysBack_L2  _ _ _ _ | exact uLP_none | exact uLQ_none | exact uLP_some | exact uLQ_some | exact uLP_sI | exact uLP_pI | exact uLP_sL | refine uLP_ite ?_ ?_ | refine uLQ_ite ?_ ?_ | refine uLP_bM ?_ (fun _ => ?_) | refine uLQ_bM ?_ (fun _ => ?_) | refine uLP_bQ ?_ (fun _ _ => ?_) | refine uLQ_bQ ?_ (fun _ _ => ?_) | refine uLP_bind (fun _ => ?_) | refine uLQ_bind (fun _ => ?_) | dsimp only)
theorem UL_X12_laysBack (l0 : Option Nat) (M : gM) : uL_P M (F_X12_laysBack l0 M) := by
  delta F_X12_laysBack
  with_reducible repeat' (first | exact UL_X12_laysBack_b0  _ _ | exact uLP_none | exact uLQ_none | exact uLP_some | exact uLQ_some | exact uLP_sI | exact uLP_pI | exact uLP_sL | refine uLP_ite ?_ ?_ | refine uLQ_ite ?_ ?_ | refine uLP_bM ?_ (fun _ => ?_) | refine uLQ_bM ?_ (fun _ => ?_) | refine uLP_bQ ?_ (fun _ _ => ?_) | refine uLQ_bQ ?_ (fun _ _ => ?_) | refine uLP_bind (fun _ => ?_) | refine uLQ_bind (fun _ => ?_) | dsimp only)
