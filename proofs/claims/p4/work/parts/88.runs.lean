/-! every run ends, with 1 -/
set_option maxHeartbeats 4000000 in
theorem law_L18 {L : Nat} (hL : L ≤ 3072) : ∀ (n : Nat) {l3 : Int32} {M : gM}, lw8 L M → (0 ≤ l3.toInt ∧ l3.toInt ≤ (L : Int)) → (L : Int) - l3.toInt < 6 * (n : Int) → Ok (F_L_law_L18 n (some 2) (some 175) l3 M) (fun r => r.1 = 1) := by
  intro n
  induction n with
  | zero => intro l3 M R h1 h2; omega
  | succ n ih =>
    intro l3 M R h1 h2
    show Ok (F_L_law_b18 (F_L_law_L18 n) (some 2) (some 175) l3 M) _
    have iL : (Int32.ofNat L).toInt = (L : Int) := i_ofNat (by omega)
    have S0 : M.2.1 0 = M.2.1 0 := rfl
    delta F_L_law_b18
    refine lw_xN R.1.1.1 ?_
    have a6 := i_subc (x := Int32.ofNat L) (c := (6 : Int32)) (n := 6) rfl (by omega) (by omega)
    refine Ok_i (fun _ => Ok_s rfl) (fun c => ?_)
    replace c := i_nlt c
    have b1 := i_addc (x := l3) (c := (1 : Int32)) (n := 1) rfl (by omega) (by omega)
    have b2 := i_addc (x := l3) (c := (2 : Int32)) (n := 2) rfl (by omega) (by omega)
    have b3 := i_addc (x := l3) (c := (3 : Int32)) (n := 3) rfl (by omega) (by omega)
    have b4 := i_addc (x := l3) (c := (4 : Int32)) (n := 4) rfl (by omega) (by omega)
    have b5 := i_addc (x := l3) (c := (5 : Int32)) (n := 5) rfl (by omega) (by omega)
    have b6 := i_addc (x := l3) (c := (6 : Int32)) (n := 6) rfl (by omega) (by omega)
    have fin : ∀ {M' : gM}, lw8 L M' → M'.2.1 0 = M.2.1 0 → Ok (F_L_law_b1088 (F_L_law_L18 n) (some 2) (some 175) l3 M') (fun r => r.1 = 1) := by
      intro M' R' _
      delta F_L_law_b1088
      exact ih R' (by rw [show l3 + 6 = l3 + (6 : Int32) from rfl]; omega) (by rw [show l3 + 6 = l3 + (6 : Int32) from rfl]; omega)
    refine lw_xI R.1.1.1 (j := l3) (by omega) (by omega) ?_
    refine Ok_i (fun _ => ?_) (fun _ => ?_)
    · skip
      refine lw_xI R.1.1.1 (j := (l3 + (1 : Int32))) (by omega) (by omega) ?_
      refine lw_xI R.1.1.1 (j := (l3 + (2 : Int32))) (by omega) (by omega) ?_
      refine lw_xI R.1.1.1 (j := (l3 + (3 : Int32))) (by omega) (by omega) ?_
      refine lw_xI R.1.1.1 (j := (l3 + (4 : Int32))) (by omega) (by omega) ?_
      refine lw_xI R.1.1.1 (j := (l3 + (5 : Int32))) (by omega) (by omega) ?_
      refine lw_gO11 R.1.1.1 ?_
      obtain ⟨w1, M1, M2, ⟨e1, B1, s1⟩, e2, R2, s2⟩ := lw8_feed (v1 := (M.2.1 0 (l3 + (1 : Int32)).toNatClampNeg)) (v2 := (M.2.1 0 (l3 + (2 : Int32)).toNatClampNeg)) (v3 := (M.2.1 0 (l3 + (3 : Int32)).toNatClampNeg)) (v4 := (M.2.1 0 (l3 + (4 : Int32)).toNatClampNeg)) (v5 := (M.2.1 0 (l3 + (5 : Int32)).toNatClampNeg)) R
      rw [e1, Option.bind_some]
      dsimp only
      refine lw_xI B1 (j := (l3 + (1 : Int32))) (by omega) (by omega) ?_
      refine lw_xI B1 (j := (l3 + (2 : Int32))) (by omega) (by omega) ?_
      refine lw_xI B1 (j := (l3 + (3 : Int32))) (by omega) (by omega) ?_
      refine lw_xI B1 (j := (l3 + (4 : Int32))) (by omega) (by omega) ?_
      refine lw_xI B1 (j := (l3 + (5 : Int32))) (by omega) (by omega) ?_
      rw [s1]
      refine lw_gO12 B1 ?_
      rw [e2, Option.bind_some]
      dsimp only
      exact fin R2 s2
    refine Ok_i (fun _ => ?_) (fun _ => ?_)
    · skip
      refine lw_xI R.1.1.1 (j := (l3 + (1 : Int32))) (by omega) (by omega) ?_
      refine lw_gO11 R.1.1.1 ?_
      obtain ⟨w1, M1, M2, ⟨e1, B1, s1⟩, e2, R2, s2⟩ := lw8_end (l := (M.2.1 0 (l3 + (1 : Int32)).toNatClampNeg)) R
      rw [e1, Option.bind_some]
      dsimp only
      refine lw_xI B1 (j := (l3 + (1 : Int32))) (by omega) (by omega) ?_
      rw [s1]
      refine lw_gO12 B1 ?_
      rw [e2, Option.bind_some]
      dsimp only
      exact fin R2 s2
    refine Ok_i (fun _ => ?_) (fun _ => ?_)
    · skip
      refine lw_gO11 R.1.1.1 ?_
      obtain ⟨w1, M1, M2, ⟨e1, B1, s1⟩, e2, R2, s2⟩ := lw8_house R
      rw [e1, Option.bind_some]
      dsimp only
      refine lw_gO12 B1 ?_
      rw [e2, Option.bind_some]
      dsimp only
      rw [if_pos rfl]
      exact fin R2 s2
    refine Ok_i (fun _ => ?_) (fun _ => ?_)
    · skip
      refine lw_gO11 R.1.1.1 ?_
      obtain ⟨w1, M1, M2, ⟨e1, B1, s1⟩, e2, R2, s2⟩ := lw8_rule R
      rw [e1, Option.bind_some]
      dsimp only
      refine lw_gO12 B1 ?_
      rw [e2, Option.bind_some]
      dsimp only
      exact fin R2 s2
    refine Ok_i (fun _ => ?_) (fun _ => ?_)
    · skip
      refine lw_xI R.1.1.1 (j := (l3 + (1 : Int32))) (by omega) (by omega) ?_
      refine lw_gO11 R.1.1.1 ?_
      obtain ⟨w1, M1, M2, ⟨e1, B1, s1⟩, e2, R2, s2⟩ := lw8_force (l := (M.2.1 0 (l3 + (1 : Int32)).toNatClampNeg)) R
      rw [e1, Option.bind_some]
      dsimp only
      refine lw_xI B1 (j := (l3 + (1 : Int32))) (by omega) (by omega) ?_
      rw [s1]
      refine lw_gO12 B1 ?_
      rw [e2, Option.bind_some]
      dsimp only
      exact fin R2 s2
    refine Ok_i (fun _ => ?_) (fun _ => ?_)
    · skip
      refine lw_xI R.1.1.1 (j := (l3 + (1 : Int32))) (by omega) (by omega) ?_
      refine lw_xI R.1.1.1 (j := (l3 + (2 : Int32))) (by omega) (by omega) ?_
      refine lw_gO11 R.1.1.1 ?_
      refine lw_pi (S_X11_heir R.1.1.1.1.1.1 R.1.1.1.2.1.1.1) (fun _ => ?_)
      refine lw_xI R.1.1.1 (j := (l3 + (1 : Int32))) (by omega) (by omega) ?_
      refine lw_xI R.1.1.1 (j := (l3 + (2 : Int32))) (by omega) (by omega) ?_
      refine lw_gO12 R.1.1.1 ?_
      refine lw_pi (S_X12_heir R.1.1.1.1.1.2) (fun _ => ?_)
      exact fin R S0
    refine Ok_i (fun _ => ?_) (fun _ => ?_)
    · skip
      refine lw_xI R.1.1.1 (j := (l3 + (1 : Int32))) (by omega) (by omega) ?_
      refine lw_xI R.1.1.1 (j := (l3 + (2 : Int32))) (by omega) (by omega) ?_
      refine lw_gO11 R.1.1.1 ?_
      refine lw_pi (S_X11_thing R.1.1.1.1.1.1 R.1.1.1.2.1.1.1) (fun _ => ?_)
      refine lw_xI R.1.1.1 (j := (l3 + (1 : Int32))) (by omega) (by omega) ?_
      refine lw_xI R.1.1.1 (j := (l3 + (2 : Int32))) (by omega) (by omega) ?_
      refine lw_gO12 R.1.1.1 ?_
      refine lw_pi (S_X12_thing R.1.1.1.1.1.2) (fun _ => ?_)
      exact fin R S0
    refine Ok_i (fun _ => ?_) (fun _ => ?_)
    · skip
      refine lw_xI R.1.1.1 (j := (l3 + (1 : Int32))) (by omega) (by omega) ?_
      refine lw_xI R.1.1.1 (j := (l3 + (2 : Int32))) (by omega) (by omega) ?_
      refine lw_xI R.1.1.1 (j := (l3 + (3 : Int32))) (by omega) (by omega) ?_
      refine lw_gO11 R.1.1.1 ?_
      refine lw_pi (S_X11_knows R.1.1.1.1.1.1 R.1.1.1.2.1.1.1) (fun _ => ?_)
      refine lw_xI R.1.1.1 (j := (l3 + (1 : Int32))) (by omega) (by omega) ?_
      refine lw_xI R.1.1.1 (j := (l3 + (2 : Int32))) (by omega) (by omega) ?_
      refine lw_xI R.1.1.1 (j := (l3 + (3 : Int32))) (by omega) (by omega) ?_
      refine lw_gO12 R.1.1.1 ?_
      refine lw_pi (S_X12_knows R.1.1.1.1.1.2) (fun _ => ?_)
      exact fin R S0
    refine Ok_i (fun _ => ?_) (fun _ => ?_)
    · skip
      refine lw_gO11 R.1.1.1 ?_
      refine lw8_cPI R (b := q_ba) rfl rfl rfl rfl rfl (S_X11_year R.1.1.1.1.1.1 R.1.1.1.2.1.1.1) (fun _ M801 R801 s801 => ?_)
      have S801 := s801.trans S0
      dsimp only
      refine lw_gO12 R801.1.1.1 ?_
      refine lw8_rPI R801 (by decide) (by decide) (by decide) (S_X12_year R801.1.1.1.1.1.2 R801.1.1.1.1.2) (fun _ M802 R802 s802 => ?_)
      have S802 := s802.trans S801
      dsimp only
      exact fin R802 S802
    refine Ok_i (fun _ => ?_) (fun _ => ?_)
    · skip
      refine lw_xI R.1.1.1 (j := (l3 + (1 : Int32))) (by omega) (by omega) ?_
      refine lw_xI R.1.1.1 (j := (l3 + (2 : Int32))) (by omega) (by omega) ?_
      refine lw_xI R.1.1.1 (j := (l3 + (3 : Int32))) (by omega) (by omega) ?_
      refine lw_xI R.1.1.1 (j := (l3 + (4 : Int32))) (by omega) (by omega) ?_
      refine Ok_i (fun _ => ?_) (fun _ => ?_)
      · skip
        delta F_L_law_b462 F_L_law_b495
        refine lw_gO11 R.1.1.1 ?_
        refine lw8_cPI R (b := q_ba) rfl rfl rfl rfl rfl (S_X11_tell R.1.1.1.1.1.1 R.1.1.1.2.1.1.1) (fun _ M901 R901 s901 => ?_)
        have S901 := s901.trans S0
        dsimp only
        refine lw_xI R901.1.1.1 (j := (l3 + (1 : Int32))) (by omega) (by omega) ?_
        refine lw_xI R901.1.1.1 (j := (l3 + (2 : Int32))) (by omega) (by omega) ?_
        refine lw_xI R901.1.1.1 (j := (l3 + (3 : Int32))) (by omega) (by omega) ?_
        refine lw_xI R901.1.1.1 (j := (l3 + (4 : Int32))) (by omega) (by omega) ?_
        refine Ok_i (fun _ => ?_) (fun _ => ?_)
        · skip
          refine lw_gO12 R901.1.1.1 ?_
          refine lw8_rPI R901 (by decide) (by decide) (by decide) (S_X12_tell R901.1.1.1.1.1.2) (fun _ M902 R902 s902 => ?_)
          have S902 := s902.trans S901
          dsimp only
          exact fin R902 S902
        · skip
          refine lw_gO12 R901.1.1.1 ?_
          refine lw8_rPI R901 (by decide) (by decide) (by decide) (S_X12_tell R901.1.1.1.1.1.2) (fun _ M902 R902 s902 => ?_)
          have S902 := s902.trans S901
          dsimp only
          exact fin R902 S902
      · skip
        delta F_L_law_b462 F_L_law_b495
        refine lw_gO11 R.1.1.1 ?_
        refine lw8_cPI R (b := q_ba) rfl rfl rfl rfl rfl (S_X11_tell R.1.1.1.1.1.1 R.1.1.1.2.1.1.1) (fun _ M901 R901 s901 => ?_)
        have S901 := s901.trans S0
        dsimp only
        refine lw_xI R901.1.1.1 (j := (l3 + (1 : Int32))) (by omega) (by omega) ?_
        refine lw_xI R901.1.1.1 (j := (l3 + (2 : Int32))) (by omega) (by omega) ?_
        refine lw_xI R901.1.1.1 (j := (l3 + (3 : Int32))) (by omega) (by omega) ?_
        refine lw_xI R901.1.1.1 (j := (l3 + (4 : Int32))) (by omega) (by omega) ?_
        refine Ok_i (fun _ => ?_) (fun _ => ?_)
        · skip
          refine lw_gO12 R901.1.1.1 ?_
          refine lw8_rPI R901 (by decide) (by decide) (by decide) (S_X12_tell R901.1.1.1.1.1.2) (fun _ M902 R902 s902 => ?_)
          have S902 := s902.trans S901
          dsimp only
          exact fin R902 S902
        · skip
          refine lw_gO12 R901.1.1.1 ?_
          refine lw8_rPI R901 (by decide) (by decide) (by decide) (S_X12_tell R901.1.1.1.1.1.2) (fun _ M902 R902 s902 => ?_)
          have S902 := s902.trans S901
          dsimp only
          exact fin R902 S902
    refine Ok_i (fun _ => ?_) (fun _ => ?_)
    · skip
      refine lw_xI R.1.1.1 (j := (l3 + (1 : Int32))) (by omega) (by omega) ?_
      refine lw_xI R.1.1.1 (j := (l3 + (2 : Int32))) (by omega) (by omega) ?_
      refine lw_gO11 R.1.1.1 ?_
      refine lw8_cPI R (b := q_ba) rfl rfl rfl rfl rfl (S_X11_prompt R.1.1.1.1.1.1 R.1.1.1.2.1.1.1) (fun _ M1001 R1001 s1001 => ?_)
      have S1001 := s1001.trans S0
      dsimp only
      refine lw_xI R1001.1.1.1 (j := (l3 + (1 : Int32))) (by omega) (by omega) ?_
      refine lw_xI R1001.1.1.1 (j := (l3 + (2 : Int32))) (by omega) (by omega) ?_
      refine lw_gO12 R1001.1.1.1 ?_
      refine lw8_rPI R1001 (by decide) (by decide) (by decide) (S_X12_prompt R1001.1.1.1.1.1.2) (fun _ M1002 R1002 s1002 => ?_)
      have S1002 := s1002.trans S1001
      dsimp only
      exact fin R1002 S1002
    refine Ok_i (fun _ => ?_) (fun _ => ?_)
    · skip
      refine lw_xI R.1.1.1 (j := (l3 + (1 : Int32))) (by omega) (by omega) ?_
      refine lw_xI R.1.1.1 (j := (l3 + (2 : Int32))) (by omega) (by omega) ?_
      refine lw_gO11 R.1.1.1 ?_
      refine lw8_cPI R (b := q_ba) rfl rfl rfl rfl rfl (S_X11_ask R.1.1.1.1.1.1 R.1.1.1.2.1.1.1) (fun _ M1101 R1101 s1101 => ?_)
      have S1101 := s1101.trans S0
      dsimp only
      refine lw_xI R1101.1.1.1 (j := (l3 + (1 : Int32))) (by omega) (by omega) ?_
      refine lw_xI R1101.1.1.1 (j := (l3 + (2 : Int32))) (by omega) (by omega) ?_
      refine lw_gO12 R1101.1.1.1 ?_
      refine lw8_rPI R1101 (by decide) (by decide) (by decide) (S_X12_ask R1101.1.1.1.1.1.2) (fun _ M1102 R1102 s1102 => ?_)
      have S1102 := s1102.trans S1101
      dsimp only
      exact fin R1102 S1102
    refine Ok_i (fun _ => ?_) (fun _ => ?_)
    · skip
      refine lw_xI R.1.1.1 (j := (l3 + (1 : Int32))) (by omega) (by omega) ?_
      refine lw_gO11 R.1.1.1 ?_
      refine lw8_cPI R (b := q_ba) rfl rfl rfl rfl rfl (S_X11_burn R.1.1.1.1.1.1 R.1.1.1.2.1.1.1) (fun _ M1201 R1201 s1201 => ?_)
      have S1201 := s1201.trans S0
      dsimp only
      refine lw_xI R1201.1.1.1 (j := (l3 + (1 : Int32))) (by omega) (by omega) ?_
      refine lw_gO12 R1201.1.1.1 ?_
      refine lw8_rPI R1201 (by decide) (by decide) (by decide) (S_X12_burn R1201.1.1.1.1.1.2) (fun _ M1202 R1202 s1202 => ?_)
      have S1202 := s1202.trans S1201
      dsimp only
      exact fin R1202 S1202
    refine Ok_i (fun _ => ?_) (fun _ => ?_)
    · skip
      refine lw_gO11 R.1.1.1 ?_
      refine lw8_cPI R (b := q_ba) rfl rfl rfl rfl rfl (S_X11_undo R.1.1.1.1.1.1 R.1.1.1.2.1.1.1) (fun _ M1301 R1301 s1301 => ?_)
      have S1301 := s1301.trans S0
      dsimp only
      refine lw_gO12 R1301.1.1.1 ?_
      refine lw8_rPI R1301 (by decide) (by decide) (by decide) (S_X12_undo R1301.1.1.1.1.1.2) (fun _ M1302 R1302 s1302 => ?_)
      have S1302 := s1302.trans S1301
      dsimp only
      exact fin R1302 S1302
    refine Ok_i (fun _ => ?_) (fun _ => ?_)
    · skip
      refine lw_xI R.1.1.1 (j := (l3 + (1 : Int32))) (by omega) (by omega) ?_
      refine lw_xI R.1.1.1 (j := (l3 + (2 : Int32))) (by omega) (by omega) ?_
      refine lw_gO11 R.1.1.1 ?_
      refine lw8_cPI R (b := q_ba) rfl rfl rfl rfl rfl (S_X11_ahead R.1.1.1.1.1.1 R.1.1.1.2.1.1.1) (fun _ M1401 R1401 s1401 => ?_)
      have S1401 := s1401.trans S0
      dsimp only
      refine lw_xI R1401.1.1.1 (j := (l3 + (1 : Int32))) (by omega) (by omega) ?_
      refine lw_xI R1401.1.1.1 (j := (l3 + (2 : Int32))) (by omega) (by omega) ?_
      refine lw_gO12 R1401.1.1.1 ?_
      refine lw8_rPI R1401 (by decide) (by decide) (by decide) (S_X12_ahead R1401.1.1.1.1.1.2 R1401.1.1.1.1.2) (fun _ M1402 R1402 s1402 => ?_)
      have S1402 := s1402.trans S1401
      dsimp only
      exact fin R1402 S1402
    refine Ok_i (fun _ => ?_) (fun _ => ?_)
    · skip
      refine lw_xI R.1.1.1 (j := (l3 + (1 : Int32))) (by omega) (by omega) ?_
      refine lw_gO11 R.1.1.1 ?_
      refine lw8_cPI R (b := q_ba) rfl rfl rfl rfl rfl (S_X11_strike R.1.1.1.1.1.1 R.1.1.1.2.1.1.1) (fun _ M1501 R1501 s1501 => ?_)
      have S1501 := s1501.trans S0
      dsimp only
      refine lw_xI R1501.1.1.1 (j := (l3 + (1 : Int32))) (by omega) (by omega) ?_
      refine lw_gO12 R1501.1.1.1 ?_
      refine lw8_rPI R1501 (by decide) (by decide) (by decide) (S_X12_strike R1501.1.1.1.1.1.2 R1501.1.1.1.1.2) (fun _ M1502 R1502 s1502 => ?_)
      have S1502 := s1502.trans S1501
      dsimp only
      exact fin R1502 S1502
    refine Ok_i (fun _ => ?_) (fun _ => ?_)
    · skip
      refine lw_xI R.1.1.1 (j := (l3 + (1 : Int32))) (by omega) (by omega) ?_
      refine lw_gO11 R.1.1.1 ?_
      refine lw8_cPI R (b := q_ba) rfl rfl rfl rfl rfl (S_X11_inherits R.1.1.1.1.1.1 R.1.1.1.2.1.1.1) (fun _ M1601 R1601 s1601 => ?_)
      have S1601 := s1601.trans S0
      dsimp only
      refine lw_xI R1601.1.1.1 (j := (l3 + (1 : Int32))) (by omega) (by omega) ?_
      refine lw_gO12 R1601.1.1.1 ?_
      refine lw8_rPI R1601 (by decide) (by decide) (by decide) (S_X12_inherits R1601.1.1.1.1.1.2 R1601.1.1.1.1.2) (fun _ M1602 R1602 s1602 => ?_)
      have S1602 := s1602.trans S1601
      dsimp only
      exact fin R1602 S1602
    refine Ok_i (fun _ => ?_) (fun _ => ?_)
    · skip
      refine lw_gO11 R.1.1.1 ?_
      refine lw8_cPI R (b := q_ba) rfl rfl rfl rfl rfl (S_X11_longest R.1.1.1.1.1.1 R.1.1.1.2.1.1.1) (fun _ M1701 R1701 s1701 => ?_)
      have S1701 := s1701.trans S0
      dsimp only
      refine lw_gO12 R1701.1.1.1 ?_
      refine lw8_rPI R1701 (by decide) (by decide) (by decide) (S_X12_longest R1701.1.1.1.1.1.2 R1701.1.1.1.1.2) (fun _ M1702 R1702 s1702 => ?_)
      have S1702 := s1702.trans S1701
      dsimp only
      exact fin R1702 S1702
    refine Ok_i (fun _ => ?_) (fun _ => ?_)
    · skip
      refine lw_xI R.1.1.1 (j := (l3 + (1 : Int32))) (by omega) (by omega) ?_
      refine lw_gO11 R.1.1.1 ?_
      refine lw8_cPI R (b := q_ba) rfl rfl rfl rfl rfl (S_X11_fields R.1.1.1.1.1.1 R.1.1.1.2.1.1.1) (fun _ M1801 R1801 s1801 => ?_)
      have S1801 := s1801.trans S0
      dsimp only
      refine lw_xI R1801.1.1.1 (j := (l3 + (1 : Int32))) (by omega) (by omega) ?_
      refine lw_gO12 R1801.1.1.1 ?_
      refine lw8_rPI R1801 (by decide) (by decide) (by decide) (S_X12_fields R1801.1.1.1.1.1.2 R1801.1.1.1.1.2) (fun _ M1802 R1802 s1802 => ?_)
      have S1802 := s1802.trans S1801
      dsimp only
      exact fin R1802 S1802
    refine Ok_i (fun _ => ?_) (fun _ => ?_)
    · skip
      refine lw_xI R.1.1.1 (j := (l3 + (1 : Int32))) (by omega) (by omega) ?_
      refine lw_gO11 R.1.1.1 ?_
      refine lw8_cPI R (b := q_ba) rfl rfl rfl rfl rfl (S_X11_falls R.1.1.1.1.1.1 R.1.1.1.2.1.1.1) (fun _ M1901 R1901 s1901 => ?_)
      have S1901 := s1901.trans S0
      dsimp only
      refine lw_xI R1901.1.1.1 (j := (l3 + (1 : Int32))) (by omega) (by omega) ?_
      refine lw_gO12 R1901.1.1.1 ?_
      refine lw8_rPI R1901 (by decide) (by decide) (by decide) (S_X12_falls R1901.1.1.1.1.1.2) (fun _ M1902 R1902 s1902 => ?_)
      have S1902 := s1902.trans S1901
      dsimp only
      exact fin R1902 S1902
    refine Ok_i (fun _ => ?_) (fun _ => ?_)
    · skip
      refine lw_xI R.1.1.1 (j := (l3 + (1 : Int32))) (by omega) (by omega) ?_
      refine lw_gO11 R.1.1.1 ?_
      refine lw8_cPI R (b := q_ba) rfl rfl rfl rfl rfl (S_X11_examine R.1.1.1.1.1.1 R.1.1.1.2.1.1.1) (fun _ M2001 R2001 s2001 => ?_)
      have S2001 := s2001.trans S0
      dsimp only
      refine lw_xI R2001.1.1.1 (j := (l3 + (1 : Int32))) (by omega) (by omega) ?_
      refine lw_gO12 R2001.1.1.1 ?_
      refine lw8_rPI R2001 (by decide) (by decide) (by decide) (S_X12_examine R2001.1.1.1.1.1.2) (fun _ M2002 R2002 s2002 => ?_)
      have S2002 := s2002.trans S2001
      dsimp only
      exact fin R2002 S2002
    refine Ok_i (fun _ => ?_) (fun _ => ?_)
    · skip
      refine lw_xI R.1.1.1 (j := (l3 + (1 : Int32))) (by omega) (by omega) ?_
      refine lw_xI R.1.1.1 (j := (l3 + (2 : Int32))) (by omega) (by omega) ?_
      refine lw_gO11 R.1.1.1 ?_
      refine lw_pi (S_X11_likeliest R.1.1.1.1.1.1 R.1.1.1.2.1.1.1) (fun _ => ?_)
      refine lw_xI R.1.1.1 (j := (l3 + (1 : Int32))) (by omega) (by omega) ?_
      refine lw_xI R.1.1.1 (j := (l3 + (2 : Int32))) (by omega) (by omega) ?_
      refine lw_gO12 R.1.1.1 ?_
      refine lw_pi (S_X12_likeliest R.1.1.1.1.1.2) (fun _ => ?_)
      exact fin R S0
    refine Ok_i (fun _ => ?_) (fun _ => ?_)
    · skip
      refine lw_xI R.1.1.1 (j := (l3 + (1 : Int32))) (by omega) (by omega) ?_
      refine lw_xI R.1.1.1 (j := (l3 + (2 : Int32))) (by omega) (by omega) ?_
      refine lw_gO11 R.1.1.1 ?_
      refine lw8_cPI R (b := q_ba) rfl rfl rfl rfl rfl (S_X11_parts R.1.1.1.1.1.1 R.1.1.1.2.1.1.1) (fun _ M2201 R2201 s2201 => ?_)
      have S2201 := s2201.trans S0
      dsimp only
      refine lw_xI R2201.1.1.1 (j := (l3 + (1 : Int32))) (by omega) (by omega) ?_
      refine lw_xI R2201.1.1.1 (j := (l3 + (2 : Int32))) (by omega) (by omega) ?_
      refine lw_gO12 R2201.1.1.1 ?_
      refine lw_pi (S_X12_parts R2201.1.1.1.1.1.2) (fun _ => ?_)
      exact fin R2201 S2201
    refine Ok_i (fun _ => ?_) (fun _ => ?_)
    · skip
      refine lw_xI R.1.1.1 (j := (l3 + (1 : Int32))) (by omega) (by omega) ?_
      refine lw_gO11 R.1.1.1 ?_
      refine lw8_cPI R (b := q_ba) rfl rfl rfl rfl rfl (S_X11_ways R.1.1.1.1.1.1 R.1.1.1.2.1.1.1) (fun _ M2301 R2301 s2301 => ?_)
      have S2301 := s2301.trans S0
      dsimp only
      refine lw_xI R2301.1.1.1 (j := (l3 + (1 : Int32))) (by omega) (by omega) ?_
      refine lw_gO12 R2301.1.1.1 ?_
      refine lw8_rPI R2301 (by decide) (by decide) (by decide) (S_X12_ways R2301.1.1.1.1.1.2) (fun _ M2302 R2302 s2302 => ?_)
      have S2302 := s2302.trans S2301
      dsimp only
      exact fin R2302 S2302
    refine Ok_i (fun _ => ?_) (fun _ => ?_)
    · skip
      refine lw_xI R.1.1.1 (j := (l3 + (1 : Int32))) (by omega) (by omega) ?_
      refine lw_xI R.1.1.1 (j := (l3 + (2 : Int32))) (by omega) (by omega) ?_
      refine lw_gO11 R.1.1.1 ?_
      refine lw_pi (S_X11_taught R.1.1.1.1.1.1 R.1.1.1.2.1.1.1) (fun _ => ?_)
      refine lw_xI R.1.1.1 (j := (l3 + (1 : Int32))) (by omega) (by omega) ?_
      refine lw_xI R.1.1.1 (j := (l3 + (2 : Int32))) (by omega) (by omega) ?_
      refine lw_gO12 R.1.1.1 ?_
      refine lw8_rPI R (by decide) (by decide) (by decide) (S_X12_taught R.1.1.1.1.1.2) (fun _ M2401 R2401 s2401 => ?_)
      have S2401 := s2401.trans S0
      dsimp only
      exact fin R2401 S2401
    refine Ok_i (fun _ => ?_) (fun _ => ?_)
    · skip
      refine lw_xI R.1.1.1 (j := (l3 + (1 : Int32))) (by omega) (by omega) ?_
      refine lw_xI R.1.1.1 (j := (l3 + (2 : Int32))) (by omega) (by omega) ?_
      refine lw_xI R.1.1.1 (j := (l3 + (3 : Int32))) (by omega) (by omega) ?_
      refine lw_gO11 R.1.1.1 ?_
      refine lw_pi (S_X11_prompts R.1.1.1.1.1.1 R.1.1.1.2.1.1.1) (fun _ => ?_)
      refine lw_xI R.1.1.1 (j := (l3 + (1 : Int32))) (by omega) (by omega) ?_
      refine lw_xI R.1.1.1 (j := (l3 + (2 : Int32))) (by omega) (by omega) ?_
      refine lw_xI R.1.1.1 (j := (l3 + (3 : Int32))) (by omega) (by omega) ?_
      refine lw_gO12 R.1.1.1 ?_
      refine lw8_rPI R (by decide) (by decide) (by decide) (S_X12_prompts R.1.1.1.1.1.2) (fun _ M2501 R2501 s2501 => ?_)
      have S2501 := s2501.trans S0
      dsimp only
      exact fin R2501 S2501
    refine Ok_i (fun _ => ?_) (fun _ => ?_)
    · skip
      refine lw_xI R.1.1.1 (j := (l3 + (1 : Int32))) (by omega) (by omega) ?_
      refine lw_gO11 R.1.1.1 ?_
      refine lw8_cPI R (b := q_ba) rfl rfl rfl rfl rfl (S_X11_cost R.1.1.1.1.1.1 R.1.1.1.2.1.1.1) (fun _ M2601 R2601 s2601 => ?_)
      have S2601 := s2601.trans S0
      dsimp only
      refine lw_xI R2601.1.1.1 (j := (l3 + (1 : Int32))) (by omega) (by omega) ?_
      refine lw_gO12 R2601.1.1.1 ?_
      refine lw8_rPI R2601 (by decide) (by decide) (by decide) (S_X12_cost R2601.1.1.1.1.1.2 R2601.1.1.1.1.2) (fun _ M2602 R2602 s2602 => ?_)
      have S2602 := s2602.trans S2601
      dsimp only
      exact fin R2602 S2602
    refine Ok_i (fun _ => ?_) (fun _ => ?_)
    · skip
      refine lw_xI R.1.1.1 (j := (l3 + (1 : Int32))) (by omega) (by omega) ?_
      refine lw_gO11 R.1.1.1 ?_
      obtain ⟨w1, M1, M2, ⟨e1, B1, s1⟩, e2, R2, s2⟩ := lw8_seed (l := (M.2.1 0 (l3 + (1 : Int32)).toNatClampNeg)) R
      rw [e1, Option.bind_some]
      dsimp only
      refine lw_xI B1 (j := (l3 + (1 : Int32))) (by omega) (by omega) ?_
      rw [s1]
      refine lw_gO12 B1 ?_
      rw [e2, Option.bind_some]
      dsimp only
      exact fin R2 s2
    refine Ok_i (fun _ => ?_) (fun _ => ?_)
    · skip
      refine lw_xI R.1.1.1 (j := (l3 + (1 : Int32))) (by omega) (by omega) ?_
      refine lw_xI R.1.1.1 (j := (l3 + (2 : Int32))) (by omega) (by omega) ?_
      refine lw_xI R.1.1.1 (j := (l3 + (3 : Int32))) (by omega) (by omega) ?_
      refine lw_gO11 R.1.1.1 ?_
      refine lw8_cPX R (S_X11_drawn R.1.1.1.1.1.1 R.1.1.1.2.1.1.1) (fun _ M2801 R2801 s2801 => ?_)
      have S2801 := s2801.trans S0
      dsimp only
      refine lw_xI R2801.1.1.1 (j := (l3 + (1 : Int32))) (by omega) (by omega) ?_
      refine lw_xI R2801.1.1.1 (j := (l3 + (2 : Int32))) (by omega) (by omega) ?_
      refine lw_xI R2801.1.1.1 (j := (l3 + (3 : Int32))) (by omega) (by omega) ?_
      refine lw_gO12 R2801.1.1.1 ?_
      refine lw8_rPI R2801 (by decide) (by decide) (by decide) (S_X12_drawn R2801.1.1.1.1.1.2 R2801.1.1.1.1.2) (fun _ M2802 R2802 s2802 => ?_)
      have S2802 := s2802.trans S2801
      dsimp only
      exact fin R2802 S2802
    refine Ok_i (fun _ => ?_) (fun _ => ?_)
    · skip
      refine lw_xI R.1.1.1 (j := (l3 + (1 : Int32))) (by omega) (by omega) ?_
      refine lw_gO11 R.1.1.1 ?_
      refine lw_pi (S_X11_count R.1.1.1.1.1.1 R.1.1.1.2.1.1.1) (fun _ => ?_)
      refine lw_xI R.1.1.1 (j := (l3 + (1 : Int32))) (by omega) (by omega) ?_
      refine lw_gO12 R.1.1.1 ?_
      refine lw_pi (S_X12_count R.1.1.1.1.1.2) (fun _ => ?_)
      exact fin R S0
    refine Ok_i (fun _ => ?_) (fun _ => ?_)
    · skip
      refine lw_xI R.1.1.1 (j := (l3 + (1 : Int32))) (by omega) (by omega) ?_
      refine lw_gO11 R.1.1.1 ?_
      obtain ⟨w1, w2, M1, M2, ⟨e1, B1, s1⟩, e2, R2, s2⟩ := lw8_image (l := (M.2.1 0 (l3 + (1 : Int32)).toNatClampNeg)) R
      rw [e1, Option.bind_some]
      dsimp only
      refine lw_xI B1 (j := (l3 + (1 : Int32))) (by omega) (by omega) ?_
      rw [s1]
      refine lw_gO12 B1 ?_
      rw [e2, Option.bind_some]
      dsimp only
      exact fin R2 s2
    refine Ok_i (fun _ => ?_) (fun _ => ?_)
    · skip
      refine lw_xI R.1.1.1 (j := (l3 + (1 : Int32))) (by omega) (by omega) ?_
      refine lw_gO11 R.1.1.1 ?_
      obtain ⟨w1, w2, M1, M2, ⟨e1, B1, s1⟩, e2, R2, s2⟩ := lw8_back (l := (M.2.1 0 (l3 + (1 : Int32)).toNatClampNeg)) R
      rw [e1, Option.bind_some]
      dsimp only
      refine lw_xI B1 (j := (l3 + (1 : Int32))) (by omega) (by omega) ?_
      rw [s1]
      refine lw_gO12 B1 ?_
      rw [e2, Option.bind_some]
      dsimp only
      exact fin R2 s2
    exact fin R S0
theorem law_runs (L : Nat) (xs : Nat → Int32) (hL : L ≤ 3072) : ∃ M', F_L_law (g_M0 L xs) = some (1, M') := by
  have e0 : (g_M0 L xs).1.length = 2 := rfl
  have e1 : (MC_466 L xs).1.length = 175 := LN_466 L xs
  have h : F_L_law (g_M0 L xs) = F_L_law_L18 600 (some 2) (some 175) (0 : Int32) (g_Mc L xs) := by
    delta F_L_law F_L_law_b0
    rw [e0, g_ctor1 L xs, Option.bind_some, e1, g_ctor2 L xs, Option.bind_some]
    rfl
  obtain ⟨r, er, h1⟩ := law_L18 hL 600 (l3 := 0) (lw8_first L xs) ⟨by decide, by show (0 : Int) ≤ (L : Int); omega⟩ (by show (L : Int) - 0 < 6 * ((600 : Nat) : Int); omega)
  obtain ⟨v, M'⟩ := r
  dsimp only at h1
  subst h1
  exact ⟨M', h.trans er⟩
