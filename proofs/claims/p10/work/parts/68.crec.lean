/-! what is joined, and FACTS -/
theorem s_b_inl {e : Nat} {f : sS → s_R} : s_b (.inl e) f = .inl e := rfl
theorem s_b_inr {x : sS} {f : sS → s_R} : s_b (.inr x) f = f x := rfl
theorem c_Xless {T M : gM} {x : sS} {c c2 : Nat} (X : c_X T M x c) (h : c2 ≤ c) : c_X T M x c2 := ⟨X.1, X.2.1, X.2.2.1, by have := X.2.2.2; omega⟩
theorem C_readComparingY {T M : gM} {e : Nat} (Y : c_Y T M e) : Ok (F_X7_readComparing (some 148) M) (fun r => c_Fr M r.2 ∧ c_Y T r.2 e) := by
  obtain ⟨p, C⟩ := Y.1
  obtain ⟨⟨⟨k1, k2⟩, _⟩, ⟨⟨r0, r1⟩, _⟩⟩ := z_148 (z_CL C)
  have k9 := z_k131 C
  have b31 : ∀ {v : Int32}, Ok (F_X7_readComparing_b31 (some 148) v M) (fun r => c_Fr M r.2 ∧ c_Y T r.2 e) := by
    intro v
    delta F_X7_readComparing_b31
    rw [t_gR k1 r0, Option.bind_some, t_gO k9, Option.bind_some]
    refine Ok_b (C_place C) (fun v3 h3 => ?_)
    rw [t_gO k1, Option.bind_some]
    refine Ok_b (C_countY Y) (fun M5 z5 => ?_)
    obtain ⟨p5, C5⟩ := z5.2.1
    obtain ⟨⟨⟨k1, k2⟩, _⟩, ⟨⟨r0, r1⟩, _⟩⟩ := z_148 (z_CL C5)
    rw [t_gR k1 r0, Option.bind_some, t_gO (z_k131 C5), Option.bind_some]
    refine Ok_b (C_next C5) (fun M8 z8 => ?_)
    exact Ok_s ⟨c_tr z5.1 (c_57 (z_57a z8.2)), c_YY z5.2 (z_57a z8.2) z8.1 (z8.2.2 131 7 (by omega))⟩
  delta F_X7_readComparing F_X7_readComparing_b0
  rw [t_gR k1 r0, Option.bind_some, t_gO k9, Option.bind_some]
  refine Ok_b (C_kind C) (fun v3 h3 => ?_)
  rw [C_comparingOf h3, Option.bind_some]
  refine Ok_i (fun _ => ?_) (fun _ => b31)
  rw [Option.bind_some, Option.bind_some, t_gO k9, Option.bind_some]
  refine Ok_b (C_place C) (fun v8 h8 => ?_)
  rw [Option.bind_some, C_blame k9, Option.bind_some, n_bl_s (c_Yn Y)]
  exact b31
/-- behind a joiner, in a FAULT: it ends -/
theorem C_join_Y {T M : gM} {cJ : Option Nat → Int32 → Int32 → gM → Option gM} {cF : Option Nat → Int32 → gM → Option gM} {n e : Nat} {l1 l2 l3 l4 : Int32} (Y : c_Y T M e) : Ok (F_X7_readJoined_L5 cJ cF (n + 1) (some 148) l1 l2 l3 l4 M) (fun M' => c_Fr M M' ∧ c_Y T M' e) := by
  show Ok (F_X7_readJoined_b5 cJ cF (F_X7_readJoined_L5 cJ cF n) (some 148) l1 l2 l3 l4 M) _
  obtain ⟨p, C⟩ := Y.1
  obtain ⟨⟨⟨k1, k2⟩, _⟩, ⟨⟨r0, r1⟩, _⟩⟩ := z_148 (z_CL C)
  have k9 := z_k131 C
  delta F_X7_readJoined_b5
  refine Ok_i (fun _ => Ok_s ⟨c_rf, Y⟩) (fun _ => ?_)
  rw [t_gR k1 r0, Option.bind_some, t_gO k9, Option.bind_some, C_faulty k9, Option.bind_some, if_neg (c_Yn Y), if_neg (by decide)]
  exact Ok_s ⟨c_rf, Y⟩
theorem C_b66_Y {T M : gM} {cJ : Option Nat → Int32 → Int32 → gM → Option gM} {cF : Option Nat → Int32 → gM → Option gM} {n e what : Nat} {l1 l2 l4 : Int32} (h1 : l1.toInt = (what : Int)) (Y : c_Y T M e) : Ok (F_X7_readJoined_b66 cJ cF (F_X7_readJoined_L5 cJ cF (n + 1)) (some 148) l1 l2 l4 M) (fun M' => c_Fr M M' ∧ c_Y T M' e) := by
  obtain ⟨p, C⟩ := Y.1
  obtain ⟨⟨⟨k1, k2⟩, _⟩, ⟨⟨r0, r1⟩, _⟩⟩ := z_148 (z_CL C)
  have k9 := z_k131 C
  delta F_X7_readJoined_b66
  rw [t_gR k1 r0, Option.bind_some, t_gO k9, Option.bind_some]
  refine Ok_b (C_kind C) (fun v3 h3 => ?_)
  rw [C_joinerOf h1 h3, Option.bind_some]
  refine Ok_i (fun _ => Ok_s ⟨c_rf, Y⟩) (fun _ => ?_)
  rw [Option.bind_some, t_gO k9, Option.bind_some]
  refine Ok_b (C_next C) (fun M7 z => ?_)
  have Y7 := c_YY Y (z_57a z.2) z.1 (z.2.2 131 7 (by omega))
  refine Ok_w (C_join_Y Y7) (fun M' q => ⟨c_tr (c_57 (z_57a z.2)) q.1, q.2⟩)
theorem C_join_L5 {T : gM} {cJ : Option Nat → Int32 → Int32 → gM → Option gM} {cF : Option Nat → Int32 → gM → Option gM} {what : Nat} {l1 l2 : Int32} (h1 : l1.toInt = (what : Int)) (item : sS → s_R)
    (hv : l1 = 3 → ∀ {x : sS} {c : Nat} {M : gM}, c_X T M x c → Ok (F_X7_readValue (some 148) M) (c_P T M (item x) x.1 c))
    (hF : l1 = 1 → ∀ {x : sS} {c : Nat} {M : gM}, c_X T M x c → Ok (cF (some 148) l2 M) (c_P T M (item x) x.1 c))
    (hJ : l1 ≠ 3 → l1 ≠ 1 → ∀ {x : sS} {c : Nat} {M : gM}, c_X T M x c → Ok (cJ (some 148) (l1 + 1) l2 M) (c_P T M (item x) x.1 c)) :
    ∀ (k n i j c : Nat) {l3 l4 : Int32} {x : sS} {M : gM}, c_X T M x (c + (if j = 0 then 0 else 1)) → j ≤ 14 → l3 = (if j = 0 then -1 else Int32.ofNat j) → l4.toInt = (i : Int) → i + k = 402 → n_s T - x.1 + 1 < k → k < n →
      Ok (F_X7_readJoined_L5 cJ cF n (some 148) l1 l2 l3 l4 M) (c_P T M (s_b (item x) (fun y => s_loop T what item k (if j = 0 then y else s_push y (j, 0)))) x.1 c) := by
  intro k
  induction k with
  | zero => intro n i j c l3 l4 x M X hj h3 h4 hi hs hn; omega
  | succ k ih =>
    intro n i j c l3 l4 x M X hj h3 h4 hi hs hn
    obtain ⟨n, rfl⟩ : ∃ m, n = m + 1 := ⟨n - 1, by omega⟩
    show Ok (F_X7_readJoined_b5 cJ cF (F_X7_readJoined_L5 cJ cF n) (some 148) l1 l2 l3 l4 M) _
    have C := X.1.1
    have f0 := X.1.2
    have hsz := z_Cs C
    obtain ⟨⟨⟨k1, k2⟩, _⟩, ⟨⟨r0, r1⟩, _⟩⟩ := z_148 (z_CL C)
    have k9 := z_k131 C
    have z400 : (400 : Int32).toInt = 400 := rfl
    -- behind an item
    have on : ∀ {M1 : gM}, c_P T M (item x) x.1 (c + (if j = 0 then 0 else 1)) M1 → Ok (F_X7_readJoined_b56 cJ cF (F_X7_readJoined_L5 cJ cF n) (some 148) l1 l2 l3 l4 M1) (c_P T M (s_b (item x) (fun y => s_loop T what item (k + 1) (if j = 0 then y else s_push y (j, 0)))) x.1 c) := by
      intro M1 P
      obtain ⟨f1, r1'⟩ := P
      delta F_X7_readJoined_b56
      obtain ⟨m, rfl⟩ : ∃ m, n = m + 1 := ⟨n - 1, by omega⟩
      cases hit : item x with
      | inl e =>
        rw [hit] at r1'
        rw [s_b_inl]
        have Y : c_Y T M1 e := r1'
        obtain ⟨p, C1⟩ := Y.1
        refine Ok_i (fun _ => ?_) (fun _ => ?_)
        · exact Ok_w (C_b66_Y h1 Y) (fun M' q => ⟨c_tr f1 q.1, q.2⟩)
        · rw [t_gO (z_148 (z_CL C1)).1.1.1, Option.bind_some]
          refine Ok_b (C_putY Y) (fun M2 q => ?_)
          exact Ok_w (C_b66_Y h1 q.2) (fun M' q' => ⟨c_tr f1 (c_tr q.1 q'.1), q'.2⟩)
      | inr y =>
        rw [hit] at r1'
        rw [s_b_inr]
        obtain ⟨X1, hp⟩ := r1'
        -- the joiner that waited is put
        have b66 : ∀ {M2 : gM} {y2 : sS}, c_Fr M M2 → c_X T M2 y2 c → y2.1 = y.1 → Ok (F_X7_readJoined_b66 cJ cF (F_X7_readJoined_L5 cJ cF (m + 1)) (some 148) l1 l2 l4 M2) (c_P T M (s_loop T what item (k + 1) y2) x.1 c) := by
          intro M2 y2 f2 X2 ey
          have C2 := X2.1.1
          obtain ⟨⟨⟨k1, k2⟩, _⟩, ⟨⟨r0, r1⟩, _⟩⟩ := z_148 (z_CL C2)
          have k9 := z_k131 C2
          have hs2 := z_Cs C2
          delta F_X7_readJoined_b66
          rw [t_gR k1 r0, Option.bind_some, t_gO k9, Option.bind_some]
          refine Ok_b (C_kind C2) (fun v3 h3' => ?_)
          rw [C_joinerOf h1 h3', Option.bind_some]
          show Ok _ (c_P T M (if s_jo what (k_kind T y2.1) = 0 then .inr y2 else s_b (item (k_go T y2.1, y2.2)) (fun y => s_loop T what item k (s_push y (s_jo what (k_kind T y2.1), 0)))) x.1 c)
          by_cases c0 : s_jo what (k_kind T y2.1) = 0
          · rw [if_pos c0, if_pos c0, if_pos rfl]
            exact Ok_s ⟨f2, X2, by omega⟩
          · have hlt := k_kind_lt (s_jo_256 c0)
            have kg := k_go_r hlt
            have jr := s_jo_r (what := what) (k := k_kind T y2.1)
            rw [if_neg c0, if_neg c0, if_neg (i_nneg ⟨s_jo what (k_kind T y2.1), by omega⟩), Option.bind_some, t_gO k9, Option.bind_some]
            refine Ok_b (C_next C2) (fun M7 z => ?_)
            have X7 : c_X T M7 (k_go T y2.1, y2.2) (c + (if s_jo what (k_kind T y2.1) = 0 then 0 else 1)) := c_X57 X2 (z_57a z.2) z.1 (by rw [z.2.2 131 7 (by omega)]; exact X2.1.2) (by rw [if_neg c0]; have := X2.2.2.2; omega)
            have := ih (m + 1) (i + 1) (s_jo what (k_kind T y2.1)) c (l3 := Int32.ofNat (s_jo what (k_kind T y2.1))) (l4 := l4 + 1) X7 (by omega) (by rw [if_neg c0]) (by rw [show (l4 + 1 : Int32) = Int32.ofNat (i + 1) from n_inc h4 (by omega), i_ofNat (by omega)]) (by omega) (by show n_s T - k_go T y2.1 + 1 < k; omega) (by omega)
            simp only [if_neg c0] at this
            exact Ok_w this (fun M' q => c_Pw (c_tr f2 (c_57 (z_57a z.2))) q (by show x.1 ≤ k_go T y2.1; omega))
        by_cases j0 : j = 0
        · rw [if_pos j0] at h3
          rw [if_pos j0] at X1
          simp only [if_pos j0]
          rw [if_pos h3]
          exact b66 f1 X1 rfl
        · rw [if_neg j0] at h3
          rw [if_neg j0] at X1
          simp only [if_neg j0]
          rw [if_neg (by rw [h3]; exact i_nneg ⟨j, by omega⟩), t_gO (z_148 (z_CL X1.1.1)).1.1.1, Option.bind_some]
          refine Ok_b (C_put (a := (j, 0)) X1 (by rw [h3, e_cn hj])) (fun M2 q => ?_)
          exact b66 (c_tr f1 q.1) q.2 rfl
    delta F_X7_readJoined_b5
    rw [if_neg (fun z => by have := i_lt z; omega), t_gR k1 r0, Option.bind_some, t_gO k9, Option.bind_some, C_faulty k9, Option.bind_some, if_pos f0, if_pos rfl]
    by_cases c3 : l1 = 3
    · rw [if_pos c3, t_gO k1, Option.bind_some]
      exact Ok_b (hv c3 X) (fun M1 P => on P)
    · rw [if_neg c3]
      by_cases c1 : l1 = 1
      · rw [if_pos c1, t_gO k1, Option.bind_some]
        exact Ok_b (hF c1 X) (fun M1 P => on P)
      · rw [if_neg c1, t_gO k1, Option.bind_some]
        exact Ok_b (hJ c3 c1 X) (fun M1 P => on P)
theorem C_rec {T : gM} : ∀ m : Nat, (∀ (what d c : Nat) {l1 l2 : Int32} {x : sS} {M : gM}, what ≤ 3 → d ≤ 10 → 5 * (10 - d) + 6 < m + 2 * what → l1.toInt = (what : Int) → l2.toInt = (d : Int) → c_X T M x c → Ok ((F_rec m).1 (some 148) l1 l2 M) (c_P T M (s_J T what d x) x.1 c)) ∧
    (∀ (d c : Nat) {l2 : Int32} {x : sS} {M : gM}, d ≤ 10 → 5 * (10 - d) + 3 < m → l2.toInt = (d : Int) → c_X T M x c → Ok ((F_rec m).2 (some 148) l2 M) (c_P T M (s_F T d x) x.1 c)) := by
  intro m
  induction m with
  | zero => exact ⟨fun what d c l1 l2 x M h1 h2 h3 => by omega, fun d c l2 x M h1 h2 => by omega⟩
  | succ m ih =>
    obtain ⟨ihJ, ihF⟩ := ih
    refine ⟨fun what d c l1 l2 x M hw hd hr h1 h2 X => ?_, fun d c l2 x M hd hr h2 X => ?_⟩
    · show Ok (F_X7_readJoined_L5 (F_rec m).1 (F_rec m).2 g_fuel (some 148) l1 l2 (-1 : Int32) (0 : Int32) M) _
      have z3 : (3 : Int32).toInt = 3 := rfl
      have z1 : (1 : Int32).toInt = 1 := rfl
      have hsz := z_Cs X.1.1
      have w3 : l1 = 3 ↔ what = 3 := ⟨fun e => by rw [e, z3] at h1; omega, fun e => Int32.toInt_inj.mp (by omega)⟩
      have w1 : l1 = 1 ↔ what = 1 := ⟨fun e => by rw [e, z1] at h1; omega, fun e => Int32.toInt_inj.mp (by omega)⟩
      obtain ⟨item, hitem⟩ : ∃ item : sS → s_R, s_J T what d = s_join T what item ∧ (what = 3 → item = s_val T) ∧ (what = 1 → item = s_F T d) ∧ (what = 0 ∨ what = 2 → item = s_J T (what + 1) d) := by
        rcases (by omega : what = 0 ∨ what = 1 ∨ what = 2 ∨ what = 3) with e | e | e | e
        · subst e; exact ⟨_, rfl, fun h => by omega, fun h => by omega, fun _ => rfl⟩
        · subst e; exact ⟨_, rfl, fun h => by omega, fun h => rfl, fun h => by omega⟩
        · subst e; exact ⟨_, rfl, fun h => by omega, fun h => by omega, fun _ => rfl⟩
        · subst e; exact ⟨_, rfl, fun h => rfl, fun h => by omega, fun h => by omega⟩
      obtain ⟨i0, i3, i1, i02⟩ := hitem
      have i11 : (l1 + 1 : Int32).toInt = ((what + 1 : Nat) : Int) := by rw [show (l1 + 1 : Int32) = Int32.ofNat (what + 1) from n_inc h1 (by omega), i_ofNat (by omega)]
      have := C_join_L5 (T := T) (cJ := (F_rec m).1) (cF := (F_rec m).2) (what := what) (l1 := l1) (l2 := l2) h1 item
        (fun e => by rw [i3 (w3.mp e)]; exact fun X => C_readValue X)
        (fun e => by
          have e1 := w1.mp e
          rw [i1 e1]
          intro x c M X
          exact ihF d c hd (by omega) h2 X)
        (fun e3 e1 => by
          have a3 : what ≠ 3 := fun h => e3 (w3.mpr h)
          have a1 : what ≠ 1 := fun h => e1 (w1.mpr h)
          rw [i02 (by omega)]
          intro x c M X
          exact ihJ (what + 1) d c (by omega) hd (by omega) i11 h2 X)
        402 g_fuel 0 0 c (l3 := (-1 : Int32)) (l4 := (0 : Int32)) (x := x) (M := M) X (by omega) rfl rfl rfl (by omega) (by have : g_fuel = 1000000000 := rfl; omega)
      rw [i0]
      exact this
    · show Ok (F_X7_readFact_b0 (F_rec m).1 (F_rec m).2 (some 148) l2 M) _
      have C := X.1.1
      have f0 := X.1.2
      have hsz := z_Cs C
      obtain ⟨⟨⟨k1, k2⟩, _⟩, ⟨⟨r0, r1⟩, _⟩⟩ := z_148 (z_CL C)
      have k9 := z_k131 C
      have z10 : (10 : Int32).toInt = 10 := rfl
      have z91 : (91 : Int32).toInt = 91 := rfl
      have z280 : (280 : Int32).toInt = 280 := rfl
      rw [s_F_eq hd]
      delta F_X7_readFact_b0
      rw [t_gR k1 r0, Option.bind_some, t_gO k9, Option.bind_some]
      refine Ok_b (C_kind C) (fun v3 h3 => ?_)
      have e91 : v3 = 91 ↔ k_kind T x.1 = 91 := ⟨fun e => by rw [← h3, e]; rfl, fun e => Int32.toInt_inj.mp (by rw [h3, z91]; exact e)⟩
      have e280 : v3 = 280 ↔ k_kind T x.1 = 280 := ⟨fun e => by rw [← h3, e]; rfl, fun e => Int32.toInt_inj.mp (by rw [h3, z280]; exact e)⟩
      have i21 : (l2 + (1 : Int32)).toInt = ((d + 1 : Nat) : Int) := by rw [n_inc h2 (by omega), i_ofNat (by omega)]
      -- too deep
      have deep : 10 ≤ d → Ok ((gR 7 M (some 148) 0).bind fun v1 => (gR 7 M (some 148) 0).bind fun v2 => (gO 9 M v2).bind fun i3 => (F_X9_place (some i3) M).bind fun v4 => (gO 9 M v1).bind fun i5 => (F_X9_blame (some i5) v4 (2 : Int32) M).bind fun M6 => some M6) (c_P T M (.inl (1 + 8 * x.1 + 2)) x.1 c) := by
        intro _
        rw [t_gR k1 r0, Option.bind_some, Option.bind_some, t_gO k9, Option.bind_some]
        refine Ok_b (C_place C) (fun v8 h8 => ?_)
        rw [Option.bind_some, C_blame k9, Option.bind_some]
        obtain ⟨c1, c2⟩ := n_bl_r (l1 := v8) (l2 := (2 : Int32)) C
        have e0 := n_bl_0 (M := M) (l1 := v8) (l2 := (2 : Int32)) (q := x.1) (d := 2) f0 h8 (by omega) rfl (by decide)
        exact Ok_s ⟨c_57 (z_57b c2), c_Y57 X (z_57b c2) c1 e0 (by omega)⟩
      by_cases c91 : k_kind T x.1 = 91
      · have hlt := k_kind_lt (T := T) (p := x.1) (by omega)
        have kg := k_go_r hlt
        rw [if_pos (e91.mpr c91), if_pos c91]
        delta F_X7_readFact_b21
        by_cases cd : l2 < 10
        · have hd10 := i_lt cd
          rw [if_pos cd, if_neg (by omega)]
          delta F_X7_readFact_b45
          rw [if_pos (e91.mpr c91), t_gR k1 r0, Option.bind_some, t_gO k9, Option.bind_some]
          refine Ok_b (C_next C) (fun M19 z => ?_)
          have X19 : c_X T M19 (k_go T x.1, x.2) c := c_X57 X (z_57a z.2) z.1 (by rw [z.2.2 131 7 (by omega)]; exact f0) (by have := X.2.2.2; omega)
          rw [t_gO (z_148 (z_CL z.1)).1.1.1, Option.bind_some]
          refine Ok_b (ihJ 0 (d + 1) c (l1 := 0) (by omega) (by omega) (by omega) rfl i21 X19) (fun M21 q => ?_)
          obtain ⟨f21, r21⟩ := q
          cases hit : s_J T 0 (d + 1) (k_go T x.1, x.2) with
          | inl e =>
            rw [hit] at r21
            have Y : c_Y T M21 e := r21
            obtain ⟨p21, C21⟩ := Y.1
            obtain ⟨⟨⟨k1, k2⟩, _⟩, ⟨⟨r0, r1⟩, _⟩⟩ := z_148 (z_CL C21)
            rw [t_gR k1 r0, Option.bind_some, t_gO (z_k131 C21), Option.bind_some]
            refine Ok_b (C_expect (l := 93) C21) (fun M24 w => ?_)
            exact Ok_s ⟨c_tr (c_57 (z_57a z.2)) (c_tr f21 (c_57 w.2.1)), c_YY Y w.2.1 w.1 (w.2.2.2.1 (c_Yn Y))⟩
          | inr y =>
            rw [hit] at r21
            obtain ⟨X21, hp⟩ := r21
            have C21 := X21.1.1
            have hs21 := z_Cs C21
            have z93 : (93 : Int32).toInt = 93 := rfl
            obtain ⟨⟨⟨k1, k2⟩, _⟩, ⟨⟨r0, r1⟩, _⟩⟩ := z_148 (z_CL C21)
            rw [t_gR k1 r0, Option.bind_some, t_gO (z_k131 C21), Option.bind_some]
            refine Ok_b (C_expect (l := 93) C21) (fun M24 w => ?_)
            rw [s_b_inr]
            unfold s_close
            refine Ok_s ⟨c_tr (c_57 (z_57a z.2)) (c_tr f21 (c_57 w.2.1)), ?_⟩
            by_cases c93 : k_kind T y.1 = 93
            · rw [if_pos c93]
              have kg2 := k_go_r (k_kind_lt (T := T) (p := y.1) (by omega))
              refine ⟨c_X57 X21 w.2.1 w.1 (by rw [w.2.2.1 c93]; exact X21.1.2) (by have := X21.2.2.2; omega), ?_⟩
              show x.1 ≤ k_go T y.1
              have : k_go T x.1 ≤ y.1 := hp
              omega
            · rw [if_neg c93]
              exact c_Y57 X21 w.2.1 w.1 (w.2.2.2.2 X21.1.2 c93) (by omega)
        · have hd10 := i_nlt cd
          rw [if_neg cd, if_pos (by omega)]
          exact deep (by omega)
      · rw [if_neg (fun e => c91 (e91.mp e)), if_neg c91]
        by_cases c280 : k_kind T x.1 = 280
        · have hlt := k_kind_lt (T := T) (p := x.1) (by omega)
          have kg := k_go_r hlt
          rw [if_pos (e280.mpr c280), if_pos c280]
          delta F_X7_readFact_b21
          by_cases cd : l2 < 10
          · have hd10 := i_lt cd
            rw [if_pos cd, if_neg (by omega)]
            delta F_X7_readFact_b45
            rw [if_neg (fun e => c91 (e91.mp e)), if_pos (e280.mpr c280), t_gR k1 r0, Option.bind_some, t_gO k9, Option.bind_some]
            refine Ok_b (C_next C) (fun M12 z => ?_)
            have X12 : c_X T M12 (k_go T x.1, x.2) (c + 1) := c_X57 X (z_57a z.2) z.1 (by rw [z.2.2 131 7 (by omega)]; exact f0) (by have := X.2.2.2; omega)
            rw [t_gO (z_148 (z_CL z.1)).1.1.1, Option.bind_some]
            refine Ok_b (ihF (d + 1) (c + 1) (by omega) (by omega) i21 X12) (fun M14 q => ?_)
            obtain ⟨f14, r14⟩ := q
            cases hit : s_F T (d + 1) (k_go T x.1, x.2) with
            | inl e =>
              rw [hit] at r14
              have Y : c_Y T M14 e := r14
              obtain ⟨p14, C14⟩ := Y.1
              rw [t_gC (z_148 (z_CL C14)).1.1.1, Option.bind_some]
              refine Ok_b (C_putY Y) (fun M16 w => Ok_s ⟨c_tr (c_57 (z_57a z.2)) (c_tr f14 w.1), w.2⟩)
            | inr y =>
              rw [hit] at r14
              obtain ⟨X14, hp⟩ := r14
              have C14 := X14.1.1
              rw [t_gC (z_148 (z_CL C14)).1.1.1, Option.bind_some]
              refine Ok_b (C_put (a := (14, 0)) X14 (by rw [e_cn (by decide)]; rfl)) (fun M16 w => Ok_s ⟨c_tr (c_57 (z_57a z.2)) (c_tr f14 w.1), w.2, ?_⟩)
              show x.1 ≤ y.1
              have : k_go T x.1 ≤ y.1 := hp
              omega
          · have hd10 := i_nlt cd
            rw [if_neg cd, if_pos (by omega)]
            exact deep (by omega)
        · rw [if_neg (fun e => c280 (e280.mp e)), if_neg c280]
          delta F_X7_readFact_b45
          rw [if_neg (fun e => c91 (e91.mp e)), if_neg (fun e => c280 (e280.mp e)), t_gO k1, Option.bind_some]
          refine Ok_b (ihJ 2 d c (l1 := 2) (by omega) hd (by omega) rfl h2 X) (fun M2 q => ?_)
          obtain ⟨f2, r2⟩ := q
          unfold s_cmp
          have es : s_J T 2 d x = s_sum T x := rfl
          rw [es] at r2
          -- behind a FAULT
          have bad : ∀ {M3 : gM} {e : Nat} {v : Int32}, c_Fr M M3 → c_Y T M3 e → Ok ((gC 7 M3 148).bind fun _ => ((F_rec m).1 (some 148) (2 : Int32) l2 M3).bind fun M7 => (gC 7 M7 148).bind fun _ => (F_X7_put (some 148) v M7).bind fun M9 => some M9) (c_P T M (.inl e) x.1 c) := by
            intro M3 e v f3 Y
            obtain ⟨p3, C3⟩ := Y.1
            rw [t_gC (z_148 (z_CL C3)).1.1.1, Option.bind_some]
            have hm : ∃ m', m = m' + 1 := ⟨m - 1, by omega⟩
            obtain ⟨m', rfl⟩ := hm
            have gf : g_fuel = 999999999 + 1 := rfl
            refine Ok_b (P := fun M' => c_Fr M3 M' ∧ c_Y T M' e) ?_ (fun M7 w => ?_)
            · show Ok (F_X7_readJoined_L5 (F_rec m').1 (F_rec m').2 g_fuel (some 148) 2 l2 (-1 : Int32) (0 : Int32) M3) _
              rw [gf]
              exact C_join_Y Y
            · obtain ⟨p7, C7⟩ := w.2.1
              rw [t_gC (z_148 (z_CL C7)).1.1.1, Option.bind_some]
              exact Ok_b (C_putY w.2) (fun M9 u => Ok_s ⟨c_tr f3 (c_tr w.1 u.1), u.2⟩)
          cases hit : s_sum T x with
          | inl e =>
            rw [hit] at r2
            have Y : c_Y T M2 e := r2
            obtain ⟨p2, C2⟩ := Y.1
            rw [t_gC (z_148 (z_CL C2)).1.1.1, Option.bind_some]
            refine Ok_b (C_readComparingY Y) (fun yy z => ?_)
            obtain ⟨v4, M5⟩ := yy
            exact bad (c_tr f2 z.1) z.2
          | inr y =>
            rw [hit] at r2
            obtain ⟨X2, hp⟩ := r2
            have C2 := X2.1.1
            rw [t_gC (z_148 (z_CL C2)).1.1.1, Option.bind_some]
            refine Ok_b (C_readComparing X2) (fun yy z => ?_)
            obtain ⟨v4, M5⟩ := yy
            obtain ⟨f5, g0, g1⟩ := z
            dsimp only at f5 g0 g1 ⊢
            rw [s_b_inr]
            unfold s_cmp2
            by_cases c0 : s_co (k_kind T y.1) = 0
            · rw [if_pos c0]
              exact bad (c_tr f2 f5) (g0 c0)
            · rw [if_neg c0]
              obtain ⟨ev, g60, gn⟩ := g1 c0
              by_cases c60 : y.2.1 = 60
              · rw [if_pos c60]
                exact bad (c_tr f2 f5) (g60 c60)
              · rw [if_neg c60]
                have X5 := gn c60
                have kg := k_go_le (T := T) (p := y.1)
                rw [t_gC (z_148 (z_CL X5.1.1)).1.1.1, Option.bind_some]
                refine Ok_b (ihJ 2 d (c + 1) (l1 := 2) (by omega) hd (by omega) rfl h2 X5) (fun M7 q => ?_)
                obtain ⟨f7, r7⟩ := q
                have es2 : s_J T 2 d (k_go T y.1, y.2.1 + 1, y.2.2) = s_sum T (k_go T y.1, y.2.1 + 1, y.2.2) := rfl
                rw [es2] at r7
                cases hit2 : s_sum T (k_go T y.1, y.2.1 + 1, y.2.2) with
                | inl e =>
                  rw [hit2] at r7
                  have Y : c_Y T M7 e := r7
                  obtain ⟨p7, C7⟩ := Y.1
                  rw [t_gC (z_148 (z_CL C7)).1.1.1, Option.bind_some]
                  exact Ok_b (C_putY Y) (fun M9 u => Ok_s ⟨c_tr f2 (c_tr f5 (c_tr f7 u.1)), u.2⟩)
                | inr w =>
                  rw [hit2] at r7
                  obtain ⟨X7, hp7⟩ := r7
                  have cr := s_co_r (k := k_kind T y.1)
                  rw [t_gC (z_148 (z_CL X7.1.1)).1.1.1, Option.bind_some]
                  refine Ok_b (C_put (a := (s_co (k_kind T y.1), 0)) X7 (by rw [ev, e_cn (by omega)])) (fun M9 u => Ok_s ⟨c_tr f2 (c_tr f5 (c_tr f7 u.1)), u.2, ?_⟩)
                  show x.1 ≤ w.1
                  have : k_go T y.1 ≤ w.1 := hp7
                  omega
