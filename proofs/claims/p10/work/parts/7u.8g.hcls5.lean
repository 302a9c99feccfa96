/-! house() of the class: how many heirs, or the FAULT; what it leaves -/
def hr_Fr (e : Nat) (M M' : gM) : Prop := ((∀ i, i < e → g_k M' i = g_k M i) ∧ ∀ i, i < e → M'.2.2.1 i = M.2.2.1 i) ∧ (∀ i, i < e → ∀ k, ¬ (i = 136 ∧ k = 1) → M'.2.2.2 i k = M.2.2.2 i k) ∧ ∀ i, i < e → ∀ k, ¬ z_W i k → ¬ (143 ≤ i ∧ i ≤ 147) → M'.2.1 i k = M.2.1 i k
theorem C_hread {T M : gM} {e : Nat} {σ : Nat → Int32} (Z : z_T T M) (he : e = M.1.length) (hl : 197 ≤ e) (k136 : g_k M 136 = (2, 0)) (r0 : M.2.2.2 136 0 = some 131) (r2 : M.2.2.2 136 2 = some 143) (L : k_LS M 143) (h0 : ∀ k, k < 10 → σ k = 0) : ∃ Mk, F_X2_read (some 136) M = F_X2_read_b58 (some 136) Mk ∧ hr_Fr e M Mk ∧ hc_P T Mk e (hs_text T σ) := by
  have k9 : g_k M 131 = (9, 0) := Z.1.1.1.1.1.1
  obtain ⟨M3, e3, f3, ⟨N, hE, hP⟩, h5, h7⟩ := C_split Z
  have Z3 := z_Tm Z f3
  have C3 : z_C T M3 (n_sk T 0) := ⟨Z3, N, 0, hE, hP, Nat.zero_le _, by rw [h5]; rfl, rfl⟩
  have k3 : ∀ i, g_k M3 i = g_k M i := fun i => q_k_of f3.1.1
  have len3 : e = M3.1.length := by rw [f3.1.1]; exact he
  obtain ⟨M4, e4, LE4, len4, o4, z4⟩ := C_newHouse len3
  obtain ⟨M5, h5'⟩ : ∃ M5, M5 = mR M4 136 1 (some e) := ⟨_, rfl⟩
  have g5 : ∀ i, g_k M5 i = g_k M4 i := fun i => by rw [h5']; rfl
  have i5 : M5.2.1 = M4.2.1 := by rw [h5']; rfl
  have l5 : M5.2.2.1 = M4.2.2.1 := by rw [h5']; rfl
  have q5 : M5.2.2.2 136 1 = some e := by
    rw [h5']
    show g_up M4.2.2.2 136 1 (some e) 136 1 = _
    unfold g_up
    rw [if_pos rfl, if_pos rfl]
  have p5 : ∀ i k, ¬ (i = 136 ∧ k = 1) → M5.2.2.2 i k = M4.2.2.2 i k := fun i k h => by
    rw [h5']
    show g_up M4.2.2.2 136 1 (some e) i k = _
    unfold g_up
    by_cases a : i = 136
    · rw [if_pos a, if_neg (fun b => h ⟨a, b⟩)]
    · rw [if_neg a]
  have LE5 : k_LE M5 e := ⟨(g5 e).trans LE4.1, fun i hi => ⟨(g5 _).trans (LE4.2 i hi).1, (p5 e i (by omega)).trans (LE4.2 i hi).2⟩⟩
  have g5' : ∀ i, i < e → g_k M5 i = g_k M i := fun i hi => (g5 i).trans ((o4 i hi).1.1.trans (k3 i))
  have r5' : ∀ i k, i < e → ¬ (i = 136 ∧ k = 1) → M5.2.2.2 i k = M.2.2.2 i k := fun i k hi h => (p5 i k h).trans (by rw [(o4 i hi).2.2, f3.1.2.2])
  have n5 : ∀ i k, i < e → M5.2.1 i k = M3.2.1 i k := fun i k hi => by rw [i5, (o4 i hi).1.2]
  have LS5 : k_LS M5 143 := by
    unfold k_LS at L ⊢
    rw [g5' 143 (by omega), g5' 144 (by omega), g5' 145 (by omega), g5' 146 (by omega), g5' 147 (by omega), r5' 143 0 (by omega) (by omega), r5' 143 1 (by omega) (by omega), r5' 143 2 (by omega) (by omega), r5' 143 3 (by omega) (by omega)]
    exact L
  obtain ⟨M8, e8, f8, ⟨⟨w4, w6⟩, v3⟩, v4⟩ := C_clear LS5
  have W4 : M8.2.1 143 4 = 0 ∧ M8.2.1 143 5 = 0 := w4
  have g8 : ∀ i, g_k M8 i = g_k M5 i := fun i => q_k_of f8.1.1.1
  have n8 : ∀ i k, i < 143 ∨ 147 < i → M8.2.1 i k = M5.2.1 i k := fun i k hi => by rw [f8.2 i hi]
  have C8 : z_C T M8 (n_sk T 0) := z_Cy C3 (fun i h1 h2 => by rw [g8, g5' i (by omega), k3]) (fun i k h => by rw [f8.1.2, r5' i k (by omega) (by omega), f3.1.2.2]) (fun i k h1 h2 => by rw [n8 i k (by omega), n5 i k (by omega)])
  have s1 : (σ 1).toInt = 0 := by rw [h0 1 (by decide)]; rfl
  have s2 : (σ 2).toInt = 0 := by rw [h0 2 (by decide)]; rfl
  have s3 : (σ 3).toInt = 0 := by rw [h0 3 (by decide)]; rfl
  have ze : ∀ i k, e ≤ i → i ≤ e + 5 → M8.2.1 i k = 0 := fun i k h1 h2 => by rw [n8 i k (by omega), i5]; exact z4 i h1 h2 k
  have R8 : hc_R T M8 e (n_sk T 0, σ) := by
    refine ⟨⟨C8, ?_⟩, ⟨⟨⟨?_, ?_⟩, ?_, ?_⟩, ⟨k_LEm LE5 g8 f8.1.2, k_Fs_LS LS5 f8⟩, hl⟩, ⟨⟨⟨⟨?_, ?_⟩, ?_⟩, ⟨?_, ?_⟩, fun t ht => ?_, fun h hh => ?_⟩, ⟨⟨?_, ?_⟩, ?_⟩, fun h hh => ?_, fun t ht => ?_⟩, ⟨?_, ?_, ?_⟩, fun h h1 h2 => ⟨?_, fun t ht => ?_⟩, fun t ht => ?_⟩
    all_goals try dsimp only at *
    · rw [n8 131 7 (by omega), n5 131 7 (by omega)]
      exact h7
    · rw [g8, g5' 136 (by omega)]
      exact k136
    · rw [f8.1.2, r5' 136 0 (by omega) (by omega)]
      exact r0
    · rw [f8.1.2]
      exact q5
    · rw [f8.1.2, r5' 136 2 (by omega) (by omega)]
      exact r2
    · rw [ze e 6 (by omega) (by omega), h0 1 (by decide)]
    · rw [ze e 7 (by omega) (by omega), h0 2 (by decide)]
    · rw [ze e 8 (by omega) (by omega), h0 3 (by decide)]
    · rw [ze e 9 (by omega) (by omega), h0 7 (by decide)]
    · rw [ze e 10 (by omega) (by omega), h0 6 (by decide)]
    · omega
    · omega
    · rw [W4.1, h0 8 (by decide)]
    · rw [W4.2, h0 4 (by decide)]
    · rw [h0 5 (by decide)]
      exact w6
    · omega
    · omega
    · omega
    · omega
    · omega
    · exact ze (e + 5) h (by omega) (by omega)
    · exact (v4 (7 * h + t) (by omega)).2
    · exact (v3 t ht).2
  have F8 : hr_Fr e M M8 := by
    refine ⟨⟨fun i hi => (g8 i).trans (g5' i hi), fun i hi => ?_⟩, fun i hi k h => ?_, fun i hi k h1 h2 => ?_⟩
    · rw [f8.1.1.2, l5, (o4 i hi).2.1, f3.1.2.1]
    · rw [f8.1.2]
      exact r5' i k hi h
    · rw [n8 i k (by omega), n5 i k hi]
      exact f3.2 i k h1
  obtain ⟨Mk, c1, c2, c3⟩ := C_hread_L29 g_fuel 1 (l2 := (1 : Int32)) R8 rfl (by decide) (by decide) (by have : g_fuel = 1000000000 := rfl; omega)
  refine ⟨Mk, ?_, ?_, c3⟩
  · delta F_X2_read F_X2_read_b0
    rw [t_gR k136 r0, Option.bind_some, t_gO k9, Option.bind_some, e3, Option.bind_some, ← len3, e4, Option.bind_some]
    have k4 : g_k M4 136 = (2, 0) := by rw [(o4 136 (by omega)).1.1, k3]; exact k136
    have ep : pR 2 M4 (some 136) 1 (some e) = some M5 := by
      unfold pR
      rw [Option.bind_some, if_pos k4, h5']
    rw [ep, Option.bind_some, t_gR (w := some 143) ((g5 136).trans k4) (by rw [r5' 136 2 (by omega) (by omega)]; exact r2), Option.bind_some, t_gO LS5.1.1, Option.bind_some, e8, Option.bind_some]
    exact c1
  · refine ⟨⟨fun i hi => ?_, fun i hi => ?_⟩, fun i hi k h => ?_, fun i hi k h1 h2 => ?_⟩
    · rw [q_k_of c2.1.1.1]
      exact F8.1.1 i hi
    · rw [c2.1.1.2]
      exact F8.1.2 i hi
    · rw [c2.1.2]
      exact F8.2.1 i hi k h
    · rw [c2.2 i k (by unfold hc_w; unfold z_W at h1; omega)]
      exact F8.2.2 i hi k h1 h2
theorem C_houseX {T M : gM} {e : Nat} {σ : Nat → Int32} (Z : z_T T M) (he : e = M.1.length) (hl : 197 ≤ e) (k2 : g_k M 2 = (11, 0)) (r : (M.2.2.2 2 0 = some 131 ∧ M.2.2.2 2 1 = some 136) ∧ M.2.2.2 2 5 = some 9 ∧ M.2.2.2 2 7 = some 19) (k4 : g_k M 19 = (4, 0)) (k136 : g_k M 136 = (2, 0)) (r0 : M.2.2.2 136 0 = some 131) (r2 : M.2.2.2 136 2 = some 143) (L : k_LS M 143) (L9 : k_LS M 9) (h0 : ∀ k, k < 10 → σ k = 0) :
    Ok (F_X11_house (some 2) M) (fun w => ((∀ i, i < e → g_k w.2 i = g_k M i) ∧ (∀ i, i < e → w.2.2.2.1 i = M.2.2.1 i) ∧ (∀ i, i < e → ∀ k, ¬ (i = 136 ∧ k = 1) → ¬ (i = 2 ∧ k = 11) → w.2.2.2.2 i k = M.2.2.2 i k) ∧ w.2.2.1 131 6 = 0 ∧ ∀ i, i < e → ∀ k, ¬ (z_W i k ∨ (i = 131 ∧ k = 6)) → ¬ (143 ≤ i ∧ i ≤ 147) → ¬ (9 ≤ i ∧ i ≤ 13) → ¬ (i = 19 ∧ k = 2) → w.2.2.1 i k = M.2.1 i k) ∧
      (match hs_text T σ with
      | .inl er => (∃ v : Int32, w.1 = (-2 : Int32) - v ∧ v.toInt = (er : Int)) ∧ w.2.2.2.2 2 11 = M.2.2.2 2 11 ∧ (∀ i k, 9 ≤ i → i ≤ 13 → w.2.2.1 i k = M.2.1 i k) ∧ w.2.2.1 19 2 = M.2.1 19 2
      | .inr y => (w.1 = y.2 2 ∧ w.2.2.2.2 2 11 = some e) ∧ (k_LE w.2 e ∧ k_E w.2 e y.2) ∧ (w.2.2.1 e 5 = 1 ∧ k_S w.2 9 y.2) ∧ w.2.2.1 19 2 = 0)) := by
  obtain ⟨Mk, c1, ⟨⟨fk, fl⟩, fr, fi⟩, c3⟩ := C_hread Z he hl k136 r0 r2 L h0
  have kk : ∀ i, i < e → g_k Mk i = g_k M i := fk
  delta F_X11_house F_X11_house_b0
  refine x_gR k2 r.1.2 (x_gO k136 ?_)
  rw [c1]
  delta F_X2_read_b58
  have K2 : g_k Mk 2 = (11, 0) := (kk 2 (by omega)).trans k2
  have q0 : Mk.2.2.2 2 0 = some 131 := (fr 2 (by omega) 0 (by omega)).trans r.1.1
  cases hit : hs_text T σ with
  | inl er =>
    rw [hit] at c3
    have Y : hc_Y T Mk e er := c3
    rw [t_gR (hc_Yof Y).1.1.1 (hc_Yof Y).1.1.2, Option.bind_some, t_gO (hc_Yk Y), Option.bind_some, C_faulty (hc_Yk Y), Option.bind_some, if_neg (hc_Yn Y), if_neg (by decide), Option.bind_some]
    dsimp only
    have k9y : g_k Mk 131 = (9, 0) := hc_Yk Y
    refine x_gR K2 q0 (x_pI k9y ?_)
    refine Ok_t rfl ?_
    refine x_gR K2 q0 (x_gI (show g_k (mI Mk 131 6 0) 131 = (9, 0) from k9y) (mI_ne (Or.inr (by decide))) ?_)
    refine Ok_s ⟨⟨fun i hi => fk i hi, fun i hi => fl i hi, fun i hi k h1 h2 => fr i hi k h1, y_mI1, fun i hi k h1 h2 h3 h4 => ?_⟩, ⟨_, rfl, Y.1.2.1⟩, fr 2 (by omega) 11 (by omega), fun i k h1 h2 => ?_, ?_⟩
    · show (mI Mk 131 6 0).2.1 i k = _
      rw [mI_ne (by omega)]
      exact fi i hi k (fun z => h1 (Or.inl z)) h2
    · show (mI Mk 131 6 0).2.1 i k = _
      rw [mI_ne (by omega)]
      exact fi i (by omega) k (by unfold z_W; omega) (by omega)
    · show (mI Mk 131 6 0).2.1 19 2 = _
      rw [mI_ne (by omega)]
      exact fi 19 (by omega) 2 (by unfold z_W; omega) (by omega)
  | inr y =>
    rw [hit] at c3
    have R : hc_R T Mk e y := c3
    obtain ⟨⟨C, f0⟩, L', ⟨E, S⟩, X1, X2, X3⟩ := R
    have k9 := z_k131 C
    obtain ⟨⟨⟨k136', r0'⟩, r1', r2'⟩, ⟨⟨ke, kr⟩, LS⟩, he'⟩ := L'
    rw [t_gR k136' r0', Option.bind_some, t_gO k9, Option.bind_some, C_faulty k9, Option.bind_some, if_pos f0, if_pos rfl, t_gR k136' r1', Option.bind_some, t_pI ke, Option.bind_some]
    obtain ⟨Ma, ha⟩ : ∃ Ma, Ma = mI Mk e 5 (1 : Int32) := ⟨_, rfl⟩
    rw [← ha]
    have ga : ∀ i, g_k Ma i = g_k Mk i := fun i => by rw [ha]; rfl
    have ra : Ma.2.2.2 = Mk.2.2.2 := by rw [ha]; rfl
    have la : Ma.2.2.1 = Mk.2.2.1 := by rw [ha]; rfl
    have na : ∀ i k, ¬ (i = e ∧ k = 5) → Ma.2.1 i k = Mk.2.1 i k := fun i k h => by rw [ha]; exact mI_ne (by omega)
    have na5 : Ma.2.1 e 5 = 1 := by rw [ha]; exact y_mI1
    clear ha
    rw [t_gR (w := some e) ((ga _).trans k136') (by rw [ra]; exact r1'), Option.bind_some, Option.bind_some]
    dsimp only
    refine x_gR ((ga _).trans K2) (by rw [ra]; exact q0) (x_pI ((ga _).trans k9) ?_)
    refine Ok_e (by simp) ?_
    obtain ⟨Mb, hb⟩ : ∃ Mb, Mb = mI Ma 131 6 (0 : Int32) := ⟨_, rfl⟩
    rw [← hb]
    have gb : ∀ i, g_k Mb i = g_k Mk i := fun i => by rw [hb]; exact ga i
    have rb : Mb.2.2.2 = Mk.2.2.2 := by rw [hb]; exact ra
    have lb : Mb.2.2.1 = Mk.2.2.1 := by rw [hb]; exact la
    have nb : ∀ i k, ¬ (i = 131 ∧ k = 6) → Mb.2.1 i k = Ma.2.1 i k := fun i k h => by rw [hb]; exact mI_ne (by omega)
    have nb6 : Mb.2.1 131 6 = 0 := by rw [hb]; exact y_mI1
    clear hb
    have KB := (gb 2).trans K2
    unfold pR
    rw [Option.bind_some, if_pos KB, Option.bind_some]
    obtain ⟨Mc, hc⟩ : ∃ Mc, Mc = mR Mb 2 11 (some e) := ⟨_, rfl⟩
    rw [← hc]
    have gc : ∀ i, g_k Mc i = g_k Mk i := fun i => by rw [hc]; exact gb i
    have ic : Mc.2.1 = Mb.2.1 := by rw [hc]; rfl
    have lc : Mc.2.2.1 = Mk.2.2.1 := by rw [hc]; exact lb
    have rc1 : Mc.2.2.2 2 11 = some e := by
      rw [hc]
      show g_up Mb.2.2.2 2 11 (some e) 2 11 = _
      unfold g_up
      rw [if_pos rfl, if_pos rfl]
    have rc : ∀ i k, ¬ (i = 2 ∧ k = 11) → Mc.2.2.2 i k = Mk.2.2.2 i k := fun i k h => by
      rw [hc]
      show g_up Mb.2.2.2 2 11 (some e) i k = _
      rw [rb]
      unfold g_up
      by_cases a : i = 2
      · rw [if_pos a, if_neg (fun b => h ⟨a, b⟩)]
      · rw [if_neg a]
    clear hc
    have KC := (gc 2).trans K2
    have f2 : ∀ k, k ≠ 11 → Mc.2.2.2 2 k = M.2.2.2 2 k := fun k hk => (rc 2 k (by omega)).trans (fr 2 (by omega) k (by omega))
    have L9k : k_LS Mc 9 := by
      unfold k_LS at L9 ⊢
      rw [gc, gc, gc, gc, gc, kk 9 (by omega), kk (9 + 1) (by omega), kk (9 + 2) (by omega), kk (9 + 3) (by omega), kk (9 + 4) (by omega), rc 9 0 (by omega), rc 9 1 (by omega), rc 9 2 (by omega), rc 9 3 (by omega), fr 9 (by omega) 0 (by omega), fr 9 (by omega) 1 (by omega), fr 9 (by omega) 2 (by omega), fr 9 (by omega) 3 (by omega)]
      exact L9
    have LSc : k_LS Mc 143 := by
      unfold k_LS at LS ⊢
      rw [gc, gc, gc, gc, gc, rc 143 0 (by omega), rc 143 1 (by omega), rc 143 2 (by omega), rc 143 3 (by omega)]
      exact LS
    refine x_gR KC ((f2 5 (by decide)).trans r.2.1) (x_gR KC ((f2 1 (by decide)).trans r.1.2) ?_)
    refine x_gR ((gc _).trans k136') ((rc 136 2 (by omega)).trans r2') (x_gO L9k.1.1 ?_)
    obtain ⟨Md, ed, fd, d1, d2, d3⟩ := C_copy L9k LSc (by omega)
    refine x_eq ed ?_
    have gd : ∀ i, g_k Md i = g_k Mk i := fun i => (q_k_of fd.1.1.1).trans (gc i)
    have KD := (gd 2).trans K2
    have k4' : g_k Md 19 = (4, 0) := (gd 19).trans ((kk 19 (by omega)).trans k4)
    refine x_gR KD (by rw [fd.1.2]; exact (f2 7 (by decide)).trans r.2.2) (x_gO k4' ?_)
    delta F_X4_clear F_X4_clear_b0
    rw [t_pI k4', Option.bind_some, Option.bind_some]
    have od : ∀ i k, i < 9 ∨ 13 < i → Md.2.1 i k = Mb.2.1 i k := fun i k h => by rw [fd.2 i (by omega), ic]
    have oe : ∀ i k, 197 ≤ i → ¬ (i = e ∧ k = 5) → Md.2.1 i k = Mk.2.1 i k := fun i k h h2 => by rw [od i k (by omega), nb i k (by omega), na i k h2]
    refine x_gR (i := 2) (w := some e) KD (by show Md.2.2.2 2 11 = _; rw [fd.1.2]; exact rc1) (x_gI (v := y.2 2) ((gd e).trans ke) (by rw [mI_ne (Or.inl (by omega)), oe e 7 (by omega) (by omega)]; exact E.1.1.2) ?_)
    refine Ok_s ⟨⟨fun i hi => ?_, fun i hi => ?_, fun i hi k h1 h2 => ?_, ?_, fun i hi k h1 h2 h3 h4 => ?_⟩, ⟨rfl, ?_⟩, ⟨⟨?_, fun i hi => ⟨?_, ?_⟩⟩, k_Em E (fun i k h1 h2 h3 => ?_)⟩, ⟨?_, ?_⟩, y_mI1⟩
    · exact (gd i).trans (kk i hi)
    · show Md.2.2.1 i = _
      rw [fd.1.1.2, lc]
      exact fl i hi
    · show Md.2.2.2 i k = _
      rw [fd.1.2, rc i k h2]
      exact fr i hi k h1
    · rw [mI_ne (Or.inl (by decide)), od 131 6 (by omega)]
      exact nb6
    · show (mI Md 19 2 0).2.1 i k = _
      rw [mI_ne (by omega), od i k (by omega), nb i k (fun z => h1 (Or.inr z)), na i k (by omega)]
      exact fi i hi k (fun z => h1 (Or.inl z)) h2
    · show Md.2.2.2 2 11 = _
      rw [fd.1.2]
      exact rc1
    · exact (gd e).trans ke
    · exact (gd _).trans (kr i hi).1
    · show Md.2.2.2 e i = _
      rw [fd.1.2, rc e i (by omega)]
      exact (kr i hi).2
    · rw [mI_ne (Or.inl (by omega)), oe i k (by omega) h3]
    · rw [mI_ne (Or.inl (by omega)), od e 5 (by omega), nb e 5 (by omega)]
      exact na5
    · have Sc : k_S Mc 143 y.2 := k_Sm S (fun i k h1 h2 => by rw [ic, nb i k (by omega), na i k (by omega)])
      exact k_Sm (k_S_copy Sc ⟨X1.1.2, X1.2.1.2⟩ d1 d2 d3) (fun i k h1 h2 => mI_ne (Or.inl (by omega)))
