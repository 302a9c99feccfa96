/-! calls of both, one behind the other -/
theorem lw_xI {L : Nat} {M : gM} {j : Int32} {β : Type} {f : Int32 → Option β} {Q : β → Prop} (R : lw_B L M) (h0 : 0 ≤ j.toInt) (h1 : j.toInt < (L : Int)) (h : Ok (f (M.2.1 0 j.toNatClampNeg)) Q) : Ok ((xI M (some 0) j).bind f) Q := by
  have k0 := R.2.1.2
  unfold xI
  rw [Option.bind_some, if_pos ⟨by rw [k0], by rw [k0]; exact gin_of h0 h1⟩, Option.bind_some]
  exact h
theorem lw_xN {L : Nat} {M : gM} {β : Type} {f : Int32 → Option β} {Q : β → Prop} (R : lw_B L M) (h : Ok (f (Int32.ofNat L)) Q) : Ok ((xN M (some 0)).bind f) Q := by
  have k0 := R.2.1.2
  unfold xN
  rw [Option.bind_some, if_pos (by rw [k0]), k0, Option.bind_some]
  exact h
theorem lw_gO11 {L : Nat} {M : gM} {β : Type} {f : Nat → Option β} {Q : β → Prop} (R : lw_B L M) (h : Ok (f 2) Q) : Ok ((gO 11 M (some 2)).bind f) Q := c_gO R.2.1.1.1 h
theorem lw_gO12 {L : Nat} {M : gM} {β : Type} {f : Nat → Option β} {Q : β → Prop} (R : lw_B L M) (h : Ok (f 175) Q) : Ok ((gO 12 M (some 175)).bind f) Q := y_gO R.1.1.2 h
theorem lw_s_cls {b : Nat → Bool} {a : Nat} {M M' : gM} (f : q_Fx b a M M') : M'.2.1 0 = M.2.1 0 := (f.2.1 0 (Or.inr rfl)).1
theorem lw_s_ref {S : Nat} {M M' : gM} (f : y_Fr S M M') : M'.2.1 0 = M.2.1 0 := (f.2.2 0 (by decide)).1
theorem lw_cPI {b : Nat → Bool} {L : Nat} {lo hi : Int} {M : gM} {o : Option (Int32 × gM)} {β : Type} {f : Int32 × gM → Option β} {Q : β → Prop} (R : lw_R L M) (h1 : b 12 = true) (h2 : b 100 = true) (h3 : b 101 = true) (h : Ok o (q_PI b M lo hi)) (k : ∀ v M', lw_R L M' → M'.2.1 0 = M.2.1 0 → Ok (f (v, M')) Q) : Ok (o.bind f) Q := by
  refine Ok_b h (fun r z => ?_)
  obtain ⟨v, M'⟩ := r
  exact k v M' (lw_cls R z.2.1 z.2.2 h1 h2 h3) (lw_s_cls (q_Fx_of (a := 151) z.2.2))
theorem lw_cPX {L : Nat} {lo hi : Int} {w : Int32} {M : gM} {o : Option (Int32 × gM)} {β : Type} {f : Int32 × gM → Option β} {Q : β → Prop} (R : lw_R L M) (h : Ok o (q_PX M lo hi 2 w)) (k : ∀ v M', lw_R L M' → M'.2.1 0 = M.2.1 0 → Ok (f (v, M')) Q) : Ok (o.bind f) Q := lw_cPI (b := q_bd) R rfl rfl rfl (Ok_w h (fun _ z => z.1)) k
theorem lw_pi {lo hi : Int} {o : Option Int32} {β : Type} {f : Int32 → Option β} {Q : β → Prop} (h : Ok o (q_pi lo hi)) (k : ∀ v, Ok (f v) Q) : Ok (o.bind f) Q := Ok_b h (fun v _ => k v)
theorem lw_rPI {S L : Nat} {lo hi : Int} {M : gM} {o : Option (Int32 × gM)} {β : Type} {f : Int32 × gM → Option β} {Q : β → Prop} (R : lw_R L M) (hW : Nat.land S y_wb = 0) (hS : Nat.land S (2 ^ 1 + 2 ^ 2 + 2 ^ 41) = 0) (h : Ok o (y_PI S M lo hi)) (k : ∀ v M', lw_R L M' → M'.2.1 0 = M.2.1 0 → Ok (f (v, M')) Q) : Ok (o.bind f) Q := by
  refine Ok_b h (fun r z => ?_)
  obtain ⟨v, M'⟩ := r
  exact k v M' (lw_refW R z.2.1 z.2.2 hW hS) (lw_s_ref z.2.2)
theorem lw_rWI {S L : Nat} {lo hi : Int} {M : gM} {o : Option (Int32 × gM)} {β : Type} {f : Int32 × gM → Option β} {Q : β → Prop} (R : lw_R L M) (hS : Nat.land S (2 ^ 1 + 2 ^ 2 + 2 ^ 41) = 0) (h : Ok o (fun r => y_PI S M lo hi r ∧ y_W r.2)) (k : ∀ v M', lw_R L M' → M'.2.1 0 = M.2.1 0 → Ok (f (v, M')) Q) : Ok (o.bind f) Q := by
  refine Ok_b h (fun r z => ?_)
  obtain ⟨v, M'⟩ := r
  exact k v M' (lw_ref R z.1.2.1 z.1.2.2 z.2 hS) (lw_s_ref z.1.2.2)
/-- seed, image, back of the class -/
theorem lw_c27 {L : Nat} {l : Int32} {M : gM} {β : Type} {f : Int32 × gM → Option β} {Q : β → Prop} (R : lw_R L M) (k : ∀ v M', lw_R L M' → M'.2.1 0 = M.2.1 0 → Ok (f (v, M')) Q) : Ok ((F_X11_seed (some 2) l M).bind f) Q := by
  have K := R.1.2.1.1.1
  rw [S_X11_seed K, Option.bind_some]
  by_cases h : 0 ≤ l
  · have h' := i_le h
    have z0 : (0 : Int32).toInt = 0 := rfl
    rw [if_pos h]
    obtain ⟨H1, f1⟩ := q_seedHT (l1 := l) R.1.1.1.1 K (by omega)
    exact k _ _ (lw_cls R H1 f1 rfl rfl rfl) (lw_s_cls (q_Fx_of (a := 151) f1))
  · rw [if_neg h]
    exact k _ _ R rfl
theorem lw_cimg {L : Nat} {l : Int32} {M : gM} {β : Type} {f : Int32 × gM → Option β} {Q : β → Prop} (R : lw_R L M) (k : ∀ v M', lw_R L M' → M'.2.1 0 = M.2.1 0 → Ok (f (v, M')) Q) : Ok ((F_X11_image (some 2) l M).bind f) Q := by
  refine Ok_b (S_X11_image (l1 := l) R.1.1.1.1 R.1.2.1.1.1 R.1.2.1.1.2) (fun r z => ?_)
  obtain ⟨v, M'⟩ := r
  by_cases c : 0 ≤ l.toInt ∧ l.toInt ≤ 3
  · obtain ⟨H1, f1, _⟩ := z.2 c
    exact k v M' ⟨lw_Bc R.1 H1 f1 (by omega), lw_tc R.1 R.2 f1 (by omega) rfl rfl rfl⟩ (lw_s_cls f1)
  · have e := z.1 c
    dsimp only at e
    subst e
    exact k v _ R rfl
theorem lw_cback {L : Nat} {l : Int32} {M : gM} {β : Type} {f : Int32 × gM → Option β} {Q : β → Prop} (R : lw_R L M) (k : ∀ v M', lw_R L M' → M'.2.1 0 = M.2.1 0 → Ok (f (v, M')) Q) : Ok ((F_X11_back (some 2) l M).bind f) Q := by
  refine Ok_b (S_X11_back (l1 := l) R.1.1.1.1 R.1.2.1.1.1 R.1.2.1.1.2) (fun r z => ?_)
  obtain ⟨v, M'⟩ := r
  by_cases c : (0 ≤ l.toInt ∧ l.toInt ≤ 3) ∧ M.2.2.2 (151 + 6 * l.toNatClampNeg) 1 ≠ none
  · obtain ⟨H1, f1, _⟩ := z.2 c
    exact k v M' (lw_cls R H1 f1 rfl rfl rfl) (lw_s_cls (q_Fx_of (a := 151) f1))
  · have e := z.1 c
    dsimp only at e
    subst e
    exact k v _ R rfl
/-- and of the reference -/
theorem lw_rY {S L : Nat} {M : gM} {o : Option (Int32 × gM)} {β : Type} {f : Int32 × gM → Option β} {Q : β → Prop} {P : Int32 × gM → Prop} (R : lw_R L M) (hW : Nat.land S y_wb = 0) (hS : Nat.land S (2 ^ 1 + 2 ^ 2 + 2 ^ 41) = 0) (h : Ok o (fun r => (y_HT r.2 ∧ y_Fr S M r.2) ∧ P r)) (k : ∀ v M', lw_R L M' → M'.2.1 0 = M.2.1 0 → Ok (f (v, M')) Q) : Ok (o.bind f) Q := by
  refine Ok_b h (fun r z => ?_)
  obtain ⟨v, M'⟩ := r
  exact k v M' (lw_refW R z.1.1 z.1.2 hW hS) (lw_s_ref z.1.2)
theorem lw_rYW {S L : Nat} {M : gM} {o : Option (Int32 × gM)} {β : Type} {f : Int32 × gM → Option β} {Q : β → Prop} {P : Int32 × gM → Prop} (R : lw_R L M) (hS : Nat.land S (2 ^ 1 + 2 ^ 2 + 2 ^ 41) = 0) (h : Ok o (fun r => (y_HT r.2 ∧ y_Fr S M r.2) ∧ y_W r.2 ∧ P r)) (k : ∀ v M', lw_R L M' → M'.2.1 0 = M.2.1 0 → Ok (f (v, M')) Q) : Ok (o.bind f) Q := by
  refine Ok_b h (fun r z => ?_)
  obtain ⟨v, M'⟩ := r
  exact k v M' (lw_ref R z.1.1 z.1.2 z.2.1 hS) (lw_s_ref z.1.2)
