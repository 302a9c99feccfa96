/-! every run ends, with 1 -/
set_option maxHeartbeats 4000000 in
theorem law_L18 {L : Nat} (hL : L ≤ 3072) : ∀ (n : Nat) {l3 : Int32} {M : gM}, lw9 L M → (0 ≤ l3.toInt ∧ l3.toInt ≤ (L : Int)) → (L : Int) - l3.toInt < 6 * (n : Int) → Ok (F_L_law_L18 n (some 2) (some 175) l3 M) (fun r => r.1 = 1) := by
  intro n
  induction n with
  | zero => intro l3 M R h1 h2; omega
  | succ n ih =>
    intro l3 M R h1 h2
    show Ok (F_L_law_b18 (F_L_law_L18 n) (some 2) (some 175) l3 M) _
    have iL : (Int32.ofNat L).toInt = (L : Int) := i_ofNat (by omega)
    have S0 : M.2.1 0 = M.2.1 0 := rfl
    delta F_L_law_b18
    refine lw_xN R.1.1.1.1 ?_
    have a6 := i_subc (x := Int32.ofNat L) (c := (6 : Int32)) (n := 6) rfl (by omega) (by omega)
    refine Ok_i (fun _ => Ok_s rfl) (fun c => ?_)
    replace c := i_nlt c
    have b1 := i_addc (x := l3) (c := (1 : Int32)) (n := 1) rfl (by omega) (by omega)
    have b2 := i_addc (x := l3) (c := (2 : Int32)) (n := 2) rfl (by omega) (by omega)
    have b3 := i_addc (x := l3) (c := (3 : Int32)) (n := 3) rfl (by omega) (by omega)
    have b4 := i_addc (x := l3) (c := (4 : Int32)) (n := 4) rfl (by omega) (by omega)
    have b5 := i_addc (x := l3) (c := (5 : Int32)) (n := 5) rfl (by omega) (by omega)
    have b6 := i_addc (x := l3) (c := (6 : Int32)) (n := 6) rfl (by omega) (by omega)
    have fin : ∀ {M' : gM}, lw9 L M' → M'.2.1 0 = M.2.1 0 → Ok (F_L_law_b1088 (F_L_law_L18 n) (some 2) (some 175) l3 M') (fun r => r.1 = 1) := by
      intro M' R' _
      delta F_L_law_b1088
      exact ih R' (by rw [show l3 + 6 = l3 + (6 : Int32) from rfl]; omega) (by rw [show l3 + 6 = l3 + (6 : Int32) from rfl]; omega)
    refine lw_xI R.1.1.1.1 (j := l3) (by omega) (by omega) ?_
    refine Ok_i (fun _ => ?_) (fun _ => ?_)
    · skip
      delta F_L_law_b176
      refine lw_xI R.1.1.1.1 (j := (l3 + (1 : Int32))) (by omega) (by omega) ?_
      refine lw_xI R.1.1.1.1 (j := (l3 + (2 : Int32))) (by omega) (by omega) ?_
      refine lw_xI R.1.1.1.1 (j := (l3 + (3 : Int32))) (by omega) (by omega) ?_
      refine lw_xI R.1.1.1.1 (j := (l3 + (4 : Int32))) (by omega) (by omega) ?_
      refine lw_xI R.1.1.1.1 (j := (l3 + (5 : Int32))) (by omega) (by omega) ?_
      refine lw_gO11 R.1.1.1.1 ?_
      obtain ⟨w1, M1, M2, ⟨e1, B1, s1⟩, e2, R2, s2⟩ := lw9_feed (v1 := M.2.1 0 (l3 + (1 : Int32)).toNatClampNeg) (v2 := M.2.1 0 (l3 + (2 : Int32)).toNatClampNeg) (v3 := M.2.1 0 (l3 + (3 : Int32)).toNatClampNeg) (v4 := M.2.1 0 (l3 + (4 : Int32)).toNatClampNeg) (v5 := M.2.1 0 (l3 + (5 : Int32)).toNatClampNeg) R
      rw [e1, Option.bind_some]
      dsimp only
      refine lw_xI B1 (j := (l3 + (1 : Int32))) (by omega) (by omega) ?_
      refine lw_xI B1 (j := (l3 + (2 : Int32))) (by omega) (by omega) ?_
      refine lw_xI B1 (j := (l3 + (3 : Int32))) (by omega) (by omega) ?_
      refine lw_xI B1 (j := (l3 + (4 : Int32))) (by omega) (by omega) ?_
      refine lw_xI B1 (j := (l3 + (5 : Int32))) (by omega) (by omega) ?_
      rw [s1]
      refine lw_gO12 B1 ?_
      rw [e2, Option.bind_some]
      dsimp only
      exact fin R2 s2
    refine Ok_i (fun _ => ?_) (fun _ => ?_)
    · skip
      delta F_L_law_b239
      refine lw_xI R.1.1.1.1 (j := (l3 + (1 : Int32))) (by omega) (by omega) ?_
      refine lw_gO11 R.1.1.1.1 ?_
      obtain ⟨w1, M1, M2, ⟨e1, B1, s1⟩, e2, R2, s2⟩ := lw9_end (l := M.2.1 0 (l3 + (1 : Int32)).toNatClampNeg) R
      rw [e1, Option.bind_some]
      dsimp only
      refine lw_xI B1 (j := (l3 + (1 : Int32))) (by omega) (by omega) ?_
      rw [s1]
      refine lw_gO12 B1 ?_
      rw [e2, Option.bind_some]
      dsimp only
      exact fin R2 s2
    refine Ok_i (fun _ => ?_) (fun _ => ?_)
    · skip
      delta F_L_law_b262
      refine lw_gO11 R.1.1.1.1 ?_
      obtain ⟨w1, M1, M2, ⟨e1, B1, s1⟩, e2, R2, s2⟩ := lw9_house  R
      rw [e1, Option.bind_some]
      dsimp only
      refine lw_gO12 B1 ?_
      rw [e2, Option.bind_some]
      dsimp only
      exact fin R2 s2
    refine Ok_i (fun _ => ?_) (fun _ => ?_)
    · skip
      delta F_L_law_b275
      refine lw_gO11 R.1.1.1.1 ?_
      obtain ⟨w1, M1, M2, ⟨e1, B1, s1⟩, e2, R2, s2⟩ := lw9_rule  R
      rw [e1, Option.bind_some]
      dsimp only
      refine lw_gO12 B1 ?_
      rw [e2, Option.bind_some]
      dsimp only
      exact fin R2 s2
    refine Ok_i (fun _ => ?_) (fun _ => ?_)
    · skip
      delta F_L_law_b288
      refine lw_xI R.1.1.1.1 (j := (l3 + (1 : Int32))) (by omega) (by omega) ?_
      refine lw_gO11 R.1.1.1.1 ?_
      obtain ⟨w1, M1, M2, ⟨e1, B1, s1⟩, e2, R2, s2⟩ := lw9_force (l := M.2.1 0 (l3 + (1 : Int32)).toNatClampNeg) R
      rw [e1, Option.bind_some]
      dsimp only
      refine lw_xI B1 (j := (l3 + (1 : Int32))) (by omega) (by omega) ?_
      rw [s1]
      refine lw_gO12 B1 ?_
      rw [e2, Option.bind_some]
      dsimp only
      exact fin R2 s2
    refine Ok_i (fun _ => ?_) (fun _ => ?_)
    · skip
      delta F_L_law_b311
      refine lw_xI R.1.1.1.1 (j := (l3 + (1 : Int32))) (by omega) (by omega) ?_
      refine lw_xI R.1.1.1.1 (j := (l3 + (2 : Int32))) (by omega) (by omega) ?_
      refine lw_gO11 R.1.1.1.1 ?_
      refine lw9_pi (S_X11_heir R.1.1.1.1.1.1.1 R.1.1.1.1.2.1.1.1) (fun _ => ?_)
      refine lw_xI R.1.1.1.1 (j := (l3 + (1 : Int32))) (by omega) (by omega) ?_
      refine lw_xI R.1.1.1.1 (j := (l3 + (2 : Int32))) (by omega) (by omega) ?_
      refine lw_gO12 R.1.1.1.1 ?_
      refine lw9_pi (S_X12_heir R.1.1.1.1.1.1.2) (fun _ => ?_)
      exact fin R S0
    refine Ok_i (fun _ => ?_) (fun _ => ?_)
    · skip
      delta F_L_law_b344
      refine lw_xI R.1.1.1.1 (j := (l3 + (1 : Int32))) (by omega) (by omega) ?_
      refine lw_xI R.1.1.1.1 (j := (l3 + (2 : Int32))) (by omega) (by omega) ?_
      refine lw_gO11 R.1.1.1.1 ?_
      refine lw9_pi (S_X11_thing R.1.1.1.1.1.1.1 R.1.1.1.1.2.1.1.1) (fun _ => ?_)
      refine lw_xI R.1.1.1.1 (j := (l3 + (1 : Int32))) (by omega) (by omega) ?_
      refine lw_xI R.1.1.1.1 (j := (l3 + (2 : Int32))) (by omega) (by omega) ?_
      refine lw_gO12 R.1.1.1.1 ?_
      refine lw9_pi (S_X12_thing R.1.1.1.1.1.1.2) (fun _ => ?_)
      exact fin R S0
    refine Ok_i (fun _ => ?_) (fun _ => ?_)
    · skip
      delta F_L_law_b377
      refine lw_xI R.1.1.1.1 (j := (l3 + (1 : Int32))) (by omega) (by omega) ?_
      refine lw_xI R.1.1.1.1 (j := (l3 + (2 : Int32))) (by omega) (by omega) ?_
      refine lw_xI R.1.1.1.1 (j := (l3 + (3 : Int32))) (by omega) (by omega) ?_
      refine lw_gO11 R.1.1.1.1 ?_
      refine lw9_pi (S_X11_knows R.1.1.1.1.1.1.1 R.1.1.1.1.2.1.1.1) (fun _ => ?_)
      refine lw_xI R.1.1.1.1 (j := (l3 + (1 : Int32))) (by omega) (by omega) ?_
      refine lw_xI R.1.1.1.1 (j := (l3 + (2 : Int32))) (by omega) (by omega) ?_
      refine lw_xI R.1.1.1.1 (j := (l3 + (3 : Int32))) (by omega) (by omega) ?_
      refine lw_gO12 R.1.1.1.1 ?_
      refine lw9_pi (S_X12_knows R.1.1.1.1.1.1.2) (fun _ => ?_)
      exact fin R S0
    refine Ok_i (fun _ => ?_) (fun _ => ?_)
    · skip
      delta F_L_law_b420
      refine lw_gO11 R.1.1.1.1 ?_
      obtain ⟨w1, M1, M2, ⟨e1, B1, s1⟩, e2, R2, s2⟩ := lw9_year  R
      rw [e1, Option.bind_some]
      dsimp only
      refine lw_gO12 B1 ?_
      rw [e2, Option.bind_some]
      dsimp only
      exact fin R2 s2
    refine Ok_i (fun _ => ?_) (fun _ => ?_)
    · skip
      delta F_L_law_b433
      refine lw_xI R.1.1.1.1 (j := (l3 + (1 : Int32))) (by omega) (by omega) ?_
      refine lw_xI R.1.1.1.1 (j := (l3 + (2 : Int32))) (by omega) (by omega) ?_
      refine lw_xI R.1.1.1.1 (j := (l3 + (3 : Int32))) (by omega) (by omega) ?_
      refine lw_xI R.1.1.1.1 (j := (l3 + (4 : Int32))) (by omega) (by omega) ?_
      refine Ok_i (fun cc => ?_) (fun cc => ?_)
      · skip
        delta F_L_law_b462
        refine lw_gO11 R.1.1.1.1 ?_
        obtain ⟨w1, M1, M2, ⟨e1, B1, s1⟩, e2, R2, s2⟩ := lw9_tell (l1 := M.2.1 0 (l3 + (1 : Int32)).toNatClampNeg) (l2 := M.2.1 0 (l3 + (2 : Int32)).toNatClampNeg) (l3 := M.2.1 0 (l3 + (3 : Int32)).toNatClampNeg) (l4 := (0 : Int32)) R
        rw [e1, Option.bind_some]
        dsimp only
        refine lw_xI B1 (j := (l3 + (1 : Int32))) (by omega) (by omega) ?_
        refine lw_xI B1 (j := (l3 + (2 : Int32))) (by omega) (by omega) ?_
        refine lw_xI B1 (j := (l3 + (3 : Int32))) (by omega) (by omega) ?_
        refine lw_xI B1 (j := (l3 + (4 : Int32))) (by omega) (by omega) ?_
        rw [s1]
        rw [if_pos cc]
        delta F_L_law_b495
        refine lw_gO12 B1 ?_
        rw [e2, Option.bind_some]
        dsimp only
        exact fin R2 s2
      · skip
        delta F_L_law_b462
        refine lw_gO11 R.1.1.1.1 ?_
        obtain ⟨w1, M1, M2, ⟨e1, B1, s1⟩, e2, R2, s2⟩ := lw9_tell (l1 := M.2.1 0 (l3 + (1 : Int32)).toNatClampNeg) (l2 := M.2.1 0 (l3 + (2 : Int32)).toNatClampNeg) (l3 := M.2.1 0 (l3 + (3 : Int32)).toNatClampNeg) (l4 := (1 : Int32)) R
        rw [e1, Option.bind_some]
        dsimp only
        refine lw_xI B1 (j := (l3 + (1 : Int32))) (by omega) (by omega) ?_
        refine lw_xI B1 (j := (l3 + (2 : Int32))) (by omega) (by omega) ?_
        refine lw_xI B1 (j := (l3 + (3 : Int32))) (by omega) (by omega) ?_
        refine lw_xI B1 (j := (l3 + (4 : Int32))) (by omega) (by omega) ?_
        rw [s1]
        rw [if_neg cc]
        delta F_L_law_b495
        refine lw_gO12 B1 ?_
        rw [e2, Option.bind_some]
        dsimp only
        exact fin R2 s2
    refine Ok_i (fun _ => ?_) (fun _ => ?_)
    · skip
      delta F_L_law_b502
      refine lw_xI R.1.1.1.1 (j := (l3 + (1 : Int32))) (by omega) (by omega) ?_
      refine lw_xI R.1.1.1.1 (j := (l3 + (2 : Int32))) (by omega) (by omega) ?_
      refine lw_gO11 R.1.1.1.1 ?_
      obtain ⟨w1, M1, M2, ⟨e1, B1, s1⟩, e2, R2, s2⟩ := lw9_prompt (l1 := M.2.1 0 (l3 + (1 : Int32)).toNatClampNeg) (l2 := M.2.1 0 (l3 + (2 : Int32)).toNatClampNeg) R
      rw [e1, Option.bind_some]
      dsimp only
      refine lw_xI B1 (j := (l3 + (1 : Int32))) (by omega) (by omega) ?_
      refine lw_xI B1 (j := (l3 + (2 : Int32))) (by omega) (by omega) ?_
      rw [s1]
      refine lw_gO12 B1 ?_
      rw [e2, Option.bind_some]
      dsimp only
      exact fin R2 s2
    refine Ok_i (fun _ => ?_) (fun _ => ?_)
    · skip
      delta F_L_law_b535
      refine lw_xI R.1.1.1.1 (j := (l3 + (1 : Int32))) (by omega) (by omega) ?_
      refine lw_xI R.1.1.1.1 (j := (l3 + (2 : Int32))) (by omega) (by omega) ?_
      refine lw_gO11 R.1.1.1.1 ?_
      obtain ⟨w1, M1, M2, ⟨e1, B1, s1⟩, e2, R2, s2⟩ := lw9_ask (l1 := M.2.1 0 (l3 + (1 : Int32)).toNatClampNeg) (l2 := M.2.1 0 (l3 + (2 : Int32)).toNatClampNeg) R
      rw [e1, Option.bind_some]
      dsimp only
      refine lw_xI B1 (j := (l3 + (1 : Int32))) (by omega) (by omega) ?_
      refine lw_xI B1 (j := (l3 + (2 : Int32))) (by omega) (by omega) ?_
      rw [s1]
      refine lw_gO12 B1 ?_
      rw [e2, Option.bind_some]
      dsimp only
      exact fin R2 s2
    refine Ok_i (fun _ => ?_) (fun _ => ?_)
    · skip
      delta F_L_law_b568
      refine lw_xI R.1.1.1.1 (j := (l3 + (1 : Int32))) (by omega) (by omega) ?_
      refine lw_gO11 R.1.1.1.1 ?_
      obtain ⟨w1, M1, M2, ⟨e1, B1, s1⟩, e2, R2, s2⟩ := lw9_burn (l1 := M.2.1 0 (l3 + (1 : Int32)).toNatClampNeg) R
      rw [e1, Option.bind_some]
      dsimp only
      refine lw_xI B1 (j := (l3 + (1 : Int32))) (by omega) (by omega) ?_
      rw [s1]
      refine lw_gO12 B1 ?_
      rw [e2, Option.bind_some]
      dsimp only
      exact fin R2 s2
    refine Ok_i (fun _ => ?_) (fun _ => ?_)
    · skip
      delta F_L_law_b591
      refine lw_gO11 R.1.1.1.1 ?_
      obtain ⟨w1, M1, M2, ⟨e1, B1, s1⟩, e2, R2, s2⟩ := lw9_undo  R
      rw [e1, Option.bind_some]
      dsimp only
      refine lw_gO12 B1 ?_
      rw [e2, Option.bind_some]
      dsimp only
      exact fin R2 s2
    refine Ok_i (fun _ => ?_) (fun _ => ?_)
    · skip
      delta F_L_law_b604
      refine lw_xI R.1.1.1.1 (j := (l3 + (1 : Int32))) (by omega) (by omega) ?_
      refine lw_xI R.1.1.1.1 (j := (l3 + (2 : Int32))) (by omega) (by omega) ?_
      refine lw_gO11 R.1.1.1.1 ?_
      obtain ⟨w1, M1, M2, ⟨e1, B1, s1⟩, e2, R2, s2⟩ := lw9_ahead (l1 := M.2.1 0 (l3 + (1 : Int32)).toNatClampNeg) (l2 := M.2.1 0 (l3 + (2 : Int32)).toNatClampNeg) R
      rw [e1, Option.bind_some]
      dsimp only
      refine lw_xI B1 (j := (l3 + (1 : Int32))) (by omega) (by omega) ?_
      refine lw_xI B1 (j := (l3 + (2 : Int32))) (by omega) (by omega) ?_
      rw [s1]
      refine lw_gO12 B1 ?_
      rw [e2, Option.bind_some]
      dsimp only
      exact fin R2 s2
    refine Ok_i (fun _ => ?_) (fun _ => ?_)
    · skip
      delta F_L_law_b637
      refine lw_xI R.1.1.1.1 (j := (l3 + (1 : Int32))) (by omega) (by omega) ?_
      refine lw_gO11 R.1.1.1.1 ?_
      obtain ⟨w1, M1, M2, ⟨e1, B1, s1⟩, e2, R2, s2⟩ := lw9_strike (l1 := M.2.1 0 (l3 + (1 : Int32)).toNatClampNeg) R
      rw [e1, Option.bind_some]
      dsimp only
      refine lw_xI B1 (j := (l3 + (1 : Int32))) (by omega) (by omega) ?_
      rw [s1]
      refine lw_gO12 B1 ?_
      rw [e2, Option.bind_some]
      dsimp only
      exact fin R2 s2
    refine Ok_i (fun _ => ?_) (fun _ => ?_)
    · skip
      delta F_L_law_b660
      refine lw_xI R.1.1.1.1 (j := (l3 + (1 : Int32))) (by omega) (by omega) ?_
      refine lw_gO11 R.1.1.1.1 ?_
      obtain ⟨w1, M1, M2, ⟨e1, B1, s1⟩, e2, R2, s2⟩ := lw9_inherits (l1 := M.2.1 0 (l3 + (1 : Int32)).toNatClampNeg) R
      rw [e1, Option.bind_some]
      dsimp only
      refine lw_xI B1 (j := (l3 + (1 : Int32))) (by omega) (by omega) ?_
      rw [s1]
      refine lw_gO12 B1 ?_
      rw [e2, Option.bind_some]
      dsimp only
      exact fin R2 s2
    refine Ok_i (fun _ => ?_) (fun _ => ?_)
    · skip
      delta F_L_law_b683
      refine lw_gO11 R.1.1.1.1 ?_
      obtain ⟨w1, M1, M2, ⟨e1, B1, s1⟩, e2, R2, s2⟩ := lw9_longest  R
      rw [e1, Option.bind_some]
      dsimp only
      refine lw_gO12 B1 ?_
      rw [e2, Option.bind_some]
      dsimp only
      exact fin R2 s2
    refine Ok_i (fun _ => ?_) (fun _ => ?_)
    · skip
      delta F_L_law_b696
      refine lw_xI R.1.1.1.1 (j := (l3 + (1 : Int32))) (by omega) (by omega) ?_
      refine lw_gO11 R.1.1.1.1 ?_
      obtain ⟨w1, M1, M2, ⟨e1, B1, s1⟩, e2, R2, s2⟩ := lw9_fields (l1 := M.2.1 0 (l3 + (1 : Int32)).toNatClampNeg) R
      rw [e1, Option.bind_some]
      dsimp only
      refine lw_xI B1 (j := (l3 + (1 : Int32))) (by omega) (by omega) ?_
      rw [s1]
      refine lw_gO12 B1 ?_
      rw [e2, Option.bind_some]
      dsimp only
      exact fin R2 s2
    refine Ok_i (fun _ => ?_) (fun _ => ?_)
    · skip
      delta F_L_law_b719
      refine lw_xI R.1.1.1.1 (j := (l3 + (1 : Int32))) (by omega) (by omega) ?_
      refine lw_gO11 R.1.1.1.1 ?_
      obtain ⟨w1, M1, M2, ⟨e1, B1, s1⟩, e2, R2, s2⟩ := lw9_falls (l1 := M.2.1 0 (l3 + (1 : Int32)).toNatClampNeg) R
      rw [e1, Option.bind_some]
      dsimp only
      refine lw_xI B1 (j := (l3 + (1 : Int32))) (by omega) (by omega) ?_
      rw [s1]
      refine lw_gO12 B1 ?_
      rw [e2, Option.bind_some]
      dsimp only
      exact fin R2 s2
    refine Ok_i (fun _ => ?_) (fun _ => ?_)
    · skip
      delta F_L_law_b742
      refine lw_xI R.1.1.1.1 (j := (l3 + (1 : Int32))) (by omega) (by omega) ?_
      refine lw_gO11 R.1.1.1.1 ?_
      obtain ⟨w1, M1, M2, ⟨e1, B1, s1⟩, e2, R2, s2⟩ := lw9_examine (l1 := M.2.1 0 (l3 + (1 : Int32)).toNatClampNeg) R
      rw [e1, Option.bind_some]
      dsimp only
      refine lw_xI B1 (j := (l3 + (1 : Int32))) (by omega) (by omega) ?_
      rw [s1]
      refine lw_gO12 B1 ?_
      rw [e2, Option.bind_some]
      dsimp only
      exact fin R2 s2
    refine Ok_i (fun _ => ?_) (fun _ => ?_)
    · skip
      delta F_L_law_b765
      refine lw_xI R.1.1.1.1 (j := (l3 + (1 : Int32))) (by omega) (by omega) ?_
      refine lw_xI R.1.1.1.1 (j := (l3 + (2 : Int32))) (by omega) (by omega) ?_
      refine lw_gO11 R.1.1.1.1 ?_
      refine lw9_pi (S_X11_likeliest R.1.1.1.1.1.1.1 R.1.1.1.1.2.1.1.1) (fun _ => ?_)
      refine lw_xI R.1.1.1.1 (j := (l3 + (1 : Int32))) (by omega) (by omega) ?_
      refine lw_xI R.1.1.1.1 (j := (l3 + (2 : Int32))) (by omega) (by omega) ?_
      refine lw_gO12 R.1.1.1.1 ?_
      refine lw9_pi (S_X12_likeliest R.1.1.1.1.1.1.2) (fun _ => ?_)
      exact fin R S0
    refine Ok_i (fun _ => ?_) (fun _ => ?_)
    · skip
      delta F_L_law_b798
      refine lw_xI R.1.1.1.1 (j := (l3 + (1 : Int32))) (by omega) (by omega) ?_
      refine lw_xI R.1.1.1.1 (j := (l3 + (2 : Int32))) (by omega) (by omega) ?_
      refine lw_gO11 R.1.1.1.1 ?_
      refine lw9_cPI R (S_X11_parts R.1.1.1.1.1.1.1 R.1.1.1.1.2.1.1.1) (UC_X11_parts _ _ _) (fun _ M2201 R2201 s2201 => ?_)
      have S2201 := s2201.trans S0
      dsimp only
      refine lw_xI R2201.1.1.1.1 (j := (l3 + (1 : Int32))) (by omega) (by omega) ?_
      refine lw_xI R2201.1.1.1.1 (j := (l3 + (2 : Int32))) (by omega) (by omega) ?_
      refine lw_gO12 R2201.1.1.1.1 ?_
      refine lw9_pi (S_X12_parts R2201.1.1.1.1.1.1.2) (fun _ => ?_)
      exact fin R2201 S2201
    refine Ok_i (fun _ => ?_) (fun _ => ?_)
    · skip
      delta F_L_law_b831
      refine lw_xI R.1.1.1.1 (j := (l3 + (1 : Int32))) (by omega) (by omega) ?_
      refine lw_gO11 R.1.1.1.1 ?_
      refine lw9_cPI R (S_X11_ways R.1.1.1.1.1.1.1 R.1.1.1.1.2.1.1.1) (UC_X11_ways _ _) (fun _ M2301 R2301 s2301 => ?_)
      have S2301 := s2301.trans S0
      dsimp only
      refine lw_xI R2301.1.1.1.1 (j := (l3 + (1 : Int32))) (by omega) (by omega) ?_
      refine lw_gO12 R2301.1.1.1.1 ?_
      refine lw9_rPI R2301 (by decide) (by decide) (by decide) (by decide) (by decide) (S_X12_ways R2301.1.1.1.1.1.1.2) (fun _ M2302 R2302 s2302 => ?_)
      have S2302 := s2302.trans S2301
      dsimp only
      exact fin R2302 S2302
    refine Ok_i (fun _ => ?_) (fun _ => ?_)
    · skip
      delta F_L_law_b854
      refine lw_xI R.1.1.1.1 (j := (l3 + (1 : Int32))) (by omega) (by omega) ?_
      refine lw_xI R.1.1.1.1 (j := (l3 + (2 : Int32))) (by omega) (by omega) ?_
      refine lw_gO11 R.1.1.1.1 ?_
      refine lw9_pi (S_X11_taught R.1.1.1.1.1.1.1 R.1.1.1.1.2.1.1.1) (fun _ => ?_)
      refine lw_xI R.1.1.1.1 (j := (l3 + (1 : Int32))) (by omega) (by omega) ?_
      refine lw_xI R.1.1.1.1 (j := (l3 + (2 : Int32))) (by omega) (by omega) ?_
      refine lw_gO12 R.1.1.1.1 ?_
      refine lw9_rPI R (by decide) (by decide) (by decide) (by decide) (by decide) (S_X12_taught R.1.1.1.1.1.1.2) (fun _ M2401 R2401 s2401 => ?_)
      have S2401 := s2401.trans S0
      dsimp only
      exact fin R2401 S2401
    refine Ok_i (fun _ => ?_) (fun _ => ?_)
    · skip
      delta F_L_law_b887
      refine lw_xI R.1.1.1.1 (j := (l3 + (1 : Int32))) (by omega) (by omega) ?_
      refine lw_xI R.1.1.1.1 (j := (l3 + (2 : Int32))) (by omega) (by omega) ?_
      refine lw_xI R.1.1.1.1 (j := (l3 + (3 : Int32))) (by omega) (by omega) ?_
      refine lw_gO11 R.1.1.1.1 ?_
      refine lw9_pi (S_X11_prompts R.1.1.1.1.1.1.1 R.1.1.1.1.2.1.1.1) (fun _ => ?_)
      refine lw_xI R.1.1.1.1 (j := (l3 + (1 : Int32))) (by omega) (by omega) ?_
      refine lw_xI R.1.1.1.1 (j := (l3 + (2 : Int32))) (by omega) (by omega) ?_
      refine lw_xI R.1.1.1.1 (j := (l3 + (3 : Int32))) (by omega) (by omega) ?_
      refine lw_gO12 R.1.1.1.1 ?_
      refine lw9_rPI R (by decide) (by decide) (by decide) (by decide) (by decide) (S_X12_prompts R.1.1.1.1.1.1.2) (fun _ M2501 R2501 s2501 => ?_)
      have S2501 := s2501.trans S0
      dsimp only
      exact fin R2501 S2501
    refine Ok_i (fun _ => ?_) (fun _ => ?_)
    · skip
      delta F_L_law_b930
      refine lw_xI R.1.1.1.1 (j := (l3 + (1 : Int32))) (by omega) (by omega) ?_
      refine lw_gO11 R.1.1.1.1 ?_
      obtain ⟨w1, M1, M2, ⟨e1, B1, s1⟩, e2, R2, s2⟩ := lw9_cost (l1 := M.2.1 0 (l3 + (1 : Int32)).toNatClampNeg) R
      rw [e1, Option.bind_some]
      dsimp only
      refine lw_xI B1 (j := (l3 + (1 : Int32))) (by omega) (by omega) ?_
      rw [s1]
      refine lw_gO12 B1 ?_
      rw [e2, Option.bind_some]
      dsimp only
      exact fin R2 s2
    refine Ok_i (fun _ => ?_) (fun _ => ?_)
    · skip
      delta F_L_law_b953
      refine lw_xI R.1.1.1.1 (j := (l3 + (1 : Int32))) (by omega) (by omega) ?_
      refine lw_gO11 R.1.1.1.1 ?_
      obtain ⟨w1, M1, M2, ⟨e1, B1, s1⟩, e2, R2, s2⟩ := lw9_seed (l := M.2.1 0 (l3 + (1 : Int32)).toNatClampNeg) R
      rw [e1, Option.bind_some]
      dsimp only
      refine lw_xI B1 (j := (l3 + (1 : Int32))) (by omega) (by omega) ?_
      rw [s1]
      refine lw_gO12 B1 ?_
      rw [e2, Option.bind_some]
      dsimp only
      exact fin R2 s2
    refine Ok_i (fun _ => ?_) (fun _ => ?_)
    · skip
      delta F_L_law_b976
      refine lw_xI R.1.1.1.1 (j := (l3 + (1 : Int32))) (by omega) (by omega) ?_
      refine lw_xI R.1.1.1.1 (j := (l3 + (2 : Int32))) (by omega) (by omega) ?_
      refine lw_xI R.1.1.1.1 (j := (l3 + (3 : Int32))) (by omega) (by omega) ?_
      refine lw_gO11 R.1.1.1.1 ?_
      obtain ⟨w1, M1, M2, ⟨e1, B1, s1⟩, e2, R2, s2⟩ := lw9_drawn (l1 := M.2.1 0 (l3 + (1 : Int32)).toNatClampNeg) (l2 := M.2.1 0 (l3 + (2 : Int32)).toNatClampNeg) (l3 := M.2.1 0 (l3 + (3 : Int32)).toNatClampNeg) R
      rw [e1, Option.bind_some]
      dsimp only
      refine lw_xI B1 (j := (l3 + (1 : Int32))) (by omega) (by omega) ?_
      refine lw_xI B1 (j := (l3 + (2 : Int32))) (by omega) (by omega) ?_
      refine lw_xI B1 (j := (l3 + (3 : Int32))) (by omega) (by omega) ?_
      rw [s1]
      refine lw_gO12 B1 ?_
      rw [e2, Option.bind_some]
      dsimp only
      exact fin R2 s2
    refine Ok_i (fun _ => ?_) (fun _ => ?_)
    · skip
      delta F_L_law_b1019
      refine lw_xI R.1.1.1.1 (j := (l3 + (1 : Int32))) (by omega) (by omega) ?_
      refine lw_gO11 R.1.1.1.1 ?_
      refine lw9_pi (S_X11_count R.1.1.1.1.1.1.1 R.1.1.1.1.2.1.1.1) (fun _ => ?_)
      refine lw_xI R.1.1.1.1 (j := (l3 + (1 : Int32))) (by omega) (by omega) ?_
      refine lw_gO12 R.1.1.1.1 ?_
      refine lw9_pi (S_X12_count R.1.1.1.1.1.1.2) (fun _ => ?_)
      exact fin R S0
    refine Ok_i (fun _ => ?_) (fun _ => ?_)
    · skip
      delta F_L_law_b1042
      refine lw_xI R.1.1.1.1 (j := (l3 + (1 : Int32))) (by omega) (by omega) ?_
      refine lw_gO11 R.1.1.1.1 ?_
      obtain ⟨w1, M1, M2, ⟨e1, B1, s1⟩, e2, R2, s2⟩ := lw9_image (l := M.2.1 0 (l3 + (1 : Int32)).toNatClampNeg) R
      rw [e1, Option.bind_some]
      dsimp only
      refine lw_xI B1 (j := (l3 + (1 : Int32))) (by omega) (by omega) ?_
      rw [s1]
      refine lw_gO12 B1 ?_
      rw [e2, Option.bind_some]
      dsimp only
      exact fin R2 s2
    refine Ok_i (fun _ => ?_) (fun _ => ?_)
    · skip
      delta F_L_law_b1065
      refine lw_xI R.1.1.1.1 (j := (l3 + (1 : Int32))) (by omega) (by omega) ?_
      refine lw_gO11 R.1.1.1.1 ?_
      obtain ⟨w1, M1, M2, ⟨e1, B1, s1⟩, e2, R2, s2⟩ := lw9_back (l := M.2.1 0 (l3 + (1 : Int32)).toNatClampNeg) R
      rw [e1, Option.bind_some]
      dsimp only
      refine lw_xI B1 (j := (l3 + (1 : Int32))) (by omega) (by omega) ?_
      rw [s1]
      refine lw_gO12 B1 ?_
      rw [e2, Option.bind_some]
      dsimp only
      rw [if_pos rfl]
      exact fin R2 s2
    exact fin R S0
theorem law_runs (L : Nat) (xs : Nat → Int32) (hL : L ≤ 3072) : ∃ M', F_L_law (g_M0 L xs) = some (1, M') := by
  have e0 : (g_M0 L xs).1.length = 2 := rfl
  have e1 : (MC_466 L xs).1.length = 175 := LN_466 L xs
  have h : F_L_law (g_M0 L xs) = F_L_law_L18 600 (some 2) (some 175) (0 : Int32) (g_Mc L xs) := by
    delta F_L_law F_L_law_b0
    rw [e0, g_ctor1 L xs, Option.bind_some, e1, g_ctor2 L xs, Option.bind_some]
    rfl
  obtain ⟨r, er, h1⟩ := law_L18 hL 600 (l3 := 0) (lw9_first L xs) ⟨by decide, by show (0 : Int) ≤ (L : Int); omega⟩ (by show (L : Int) - 0 < 6 * ((600 : Nat) : Int); omega)
  obtain ⟨v, M'⟩ := r
  dsimp only at h1
  subst h1
  exact ⟨M', h.trans er⟩
