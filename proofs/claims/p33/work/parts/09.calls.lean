/-! calls -/
section
variable {d bc bs : Nat} {X : gX} {pc : Nat} {lv : List (Nat × gV)} {st : List gV} {M M2 : gM} {res : Option gV × gM}
theorem g_ret2 {B : gB} {r : Option gV} {st : List gV} : (r.map (g_tr B)).toList ++ st.map (g_tr B) = (r.toList ++ st).map (g_tr B) := by
  cases r <;> rfl
theorem g_pcv {E : gE} {D : va_G} {cI : Nat → ClassId} {as : List gV} {M : gM} : FrameBlind (va_Pc (as.map (g_tr (g_EB E))) (fun U => g_Am E D cI U U.heap ∧ g_Pic E D cI M U.heap)) :=
  fun _ _ _ _ q => ⟨q.1, g_Am_calling q.2.1, q.2.2⟩
/-- behind a call, whatever its kind -/
theorem g_back {E : gE} {D : va_G} {cI : Nat → ClassId} {p : Program} {l : Launch} {e : Env} {R : Room} {s : State} {m : MethodId} {args : Array Value} {below : List Frame} {meth : Method} {c : Code} {H : Heap} {locs : List Loc} {cells slots mc ms : Nat} {Q : State → Prop} {ls : Array Slot} {st0 : List Value} {r : Option gV} {a : Array Value}
    (hr : va_Run p l e R s m args below meth c H locs cells slots mc ms (F0 m pc ls st0) (st.map (g_tr (g_EB E))) ((fun _ st o t => o = .returned (r.map (g_tr (g_EB E))) ∧ g_Pic E D cI M2 t.heap ∧ va_F (g_A (g_EB E)) st t : Array Value → State → Outcome → State → Prop) a) (g_A (g_EB E)))
    (hS : va_S (g_A (g_EB E)) s.heap H locs)
    (kk : ∀ (H1 : Heap) (locs1 : List Loc), g_Pic E D cI M2 H1 → va_S (g_A (g_EB E)) s.heap H1 locs1 → W p l e R s m args below meth c H1 locs1 (cells + mc) (slots + ms) Q (F0 m (pc + 3) ls ((r.toList ++ st).map (g_tr (g_EB E))))) : W p l e R s m args below meth c H locs cells slots Q (F0 m pc ls st0) := by
  intro T hT X0
  obtain ⟨v, st₀, t, T', L, h0, X', hL, e1, e2, ⟨hv, hP, hz, hk⟩, step⟩ := hr T hT X0
  cases hv
  rw [h0] at hz hk
  obtain ⟨t2, a1, b1⟩ := kk T'.heap (locs ++ L) (by rw [e1]; exact hP) ⟨Nat.le_trans hS.1 (by rw [e1]; exact hz), fun q h1 h2 => by rw [e1, hk q (Nat.lt_of_lt_of_le h1 hS.1) h2]; exact hS.2.1 q h1 h2, fun q hq => by
      rcases List.mem_append.mp hq with h | h
      · exact hS.2.2 q h
      · exact hL q h⟩ T' rfl X'
  rw [← g_ret2] at a1
  exact ⟨t2, step t2 a1, b1⟩
/-- a call's site in the tables: of a virtual, a static or a constructor's call -/
def g_ycl (y : MethodName) (n : Nat) : Prop := y.cls ≠ "java/lang/invoke/MethodHandle" ∧ y.cls ≠ "java/lang/invoke/VarHandle" ∧ (parseMethodDescriptor y.desc).map (fun d => d.parameters.length) = some n
theorem g_good {y : MethodName} {Y : gX} (h : Cond.code y Y.2.1 Y.2.2.1 Y.2.2.2.1 ∈ g_tb) : GoodIn g_tb (.code y Y.2.1 Y.2.2.1 Y.2.2.2.1 :: g_tb) := fun w hw => by
  rcases List.mem_cons.mp hw with e | e
  · rw [e]
    exact g_tb_good _ h
  · exact g_tb_good _ e
theorem g_recv {E : gE} {D : va_G} {cI : Nat → ClassId} {s : State} {H : Heap} {i c0 : Nat} (hK : va_K D g_cl (g_tys cI) s) (hP : g_Pic E D cI M H) (hc : g_cok c0) (hi : g_k M i = (c0, 0)) : ∃ cell : Cell, H[g_ad (g_EB E) i]? = some cell ∧ cell.vm.isStatics = false ∧ s.vm.findClass (g_R c0) = some cell.cls := by
  have hq := g_k_some hi (show c0 < 90 by have := hc.1; omega)
  have hw := g_ws_at (B := g_EB E) (cI := cI) (g_Pic_two hP hq (show c0 < 30 by have := hc.1; omega)) hq
  rw [g_cell_o hc.1] at hw
  exact va_recv hK hP.2.2.2.2 hc.2.1 hw
theorem GW_callV {dz bc1 bs1 bc0 bs0 idx n c0 : Nat} {y : MethodName} {Y : gX} {i : Nat} {as : List gV} {r : Option gV} (hz : g_Met dz bc1 bs1 y Y (vr (some i) :: as) M (r, M2)) (hdz : dz + 1 ≤ d) (hY : Y.2.2.1 ≤ 21) (hyc : y.cls = g_R c0) (hc : g_cok c0) (hi : g_k M i = (c0, 0)) (hy : g_ycl y n)
    (hw : Cond.methodLink X.1 idx y ∈ g_tb ∧ Cond.instanceMethod y ∈ g_tb ∧ Cond.selects (g_R c0) y y ∈ g_tb ∧ Cond.initialized (g_R c0) ∈ g_tb ∧ Cond.code y Y.2.1 Y.2.2.1 Y.2.2.2.1 ∈ g_tb) (hd : decode X.2.1 pc = .ok (.invokevirtual idx, 3)) (hn : as.length = n) {st1 : List gV} (hst1 : st1 = as.reverse ++ vr (some i) :: st) (hst : (st.map g_cat).sum ≤ 8) (h1 : bc0 + bc1 ≤ bc) (h2 : bs0 + bs1 ≤ bs)
    {st2 : List gV} (hst2 : r.toList ++ st = st2) (k : GW d bc0 bs0 X (pc + 3) lv st2 M2 res) : GW d bc bs X pc lv st1 M res := by
  subst hst2
  intro E D cI p l e R s m args below meth c H locs cells slots Q ls C hl hP hS hB hR
  have hts := C.2.2.2.2.1
  have hK := C.2.2.2.2.2.1.1.1
  subst hst1
  have hrun := va_runV (As := as.map (g_tr (g_EB E))) (rest := st.map (g_tr (g_EB E))) (g := F0 m pc ls ((as.reverse ++ vr (some i) :: st).map (g_tr (g_EB E)))) (H := H) (p := p) (l := l) (e := e) (below := below) (meth := meth) (locs := locs) (cells := cells) (slots := slots) (args := args) (b := g_ad (g_EB E) i) ⟨C.1, C.2.1, C.2.2.1, C.2.2.2.1, hts⟩ (hz E D cI l)
    (cwV (R := R) (C := g_R c0) n hts (by
      intro w hw9
      rcases List.mem_append.mp hw9 with h | h
      · refine g_tb_good w ?_
        simp only [List.mem_cons, List.not_mem_nil, or_false] at h
        rcases h with rfl | rfl | rfl | rfl
        · exact hw.1
        · exact hw.2.1
        · exact hw.2.2.1
        · exact hw.2.2.2.1
      · exact g_good hw.2.2.2.2 w h) rfl rfl rfl ⟨hyc, hy⟩ ⟨by show dz + 1 ≤ _; omega, by show 8 + (Y.2.2.1 + 11) + 40 * dz ≤ _; omega⟩)
    ⟨g_pcv, g_recv hK hP hc hi, fun U hU hW => ⟨rfl, by rw [hU]; exact g_Am_warm hW hS C.2.2.2.2.2.1, by rw [hU]; exact hP⟩⟩ rfl (by rw [List.length_map]; exact hn) hl.1 (by simp [g_tr, va_rf, List.map_reverse]) (by show 2 * 0 + _ ≤ 8; rw [g_rest8]; omega) (by exact hd) ⟨by omega, by omega⟩
  refine g_back (a := #[]) (st := st) (r := r) hrun hS fun H1 locs1 hP1 hS1 => ?_
  exact k E D cI p l e R s m args below meth c H1 locs1 (cells + bc1) (slots + bs1) Q ls C hl hP1 hS1 ⟨by omega, by omega, hB.2.2⟩ (fun H2 locs2 k2 n2 pc2 ls2 a1 a2 a3 a4 a5 a6 => hR H2 locs2 k2 n2 pc2 ls2 a1 a2 (by omega) (by omega) a5 a6)
theorem GW_callS {dz bc1 bs1 bc0 bs0 idx n : Nat} {y : MethodName} {Y : gX} {as : List gV} {r : Option gV} (hz : g_Met dz bc1 bs1 y Y as M (r, M2)) (hdz : dz + 1 ≤ d) (hY : Y.2.2.1 ≤ 21) (hy : g_ycl y n)
    (hw : Cond.methodLink X.1 idx y ∈ g_tb ∧ Cond.static y ∈ g_tb ∧ Cond.initialized y.cls ∈ g_tb ∧ Cond.code y Y.2.1 Y.2.2.1 Y.2.2.2.1 ∈ g_tb) (hd : decode X.2.1 pc = .ok (.invokestatic idx, 3)) (hn : as.length = n) {st1 : List gV} (hst1 : st1 = as.reverse ++ st) (hst : (st.map g_cat).sum ≤ 8) (h1 : bc0 + bc1 ≤ bc) (h2 : bs0 + bs1 ≤ bs)
    {st2 : List gV} (hst2 : r.toList ++ st = st2) (k : GW d bc0 bs0 X (pc + 3) lv st2 M2 res) : GW d bc bs X pc lv st1 M res := by
  subst hst2
  intro E D cI p l e R s m args below meth c H locs cells slots Q ls C hl hP hS hB hR
  have hts := C.2.2.2.2.1
  subst hst1
  have hrun := va_runS (As := as.map (g_tr (g_EB E))) (rest := st.map (g_tr (g_EB E))) (g := F0 m pc ls ((as.reverse ++ st).map (g_tr (g_EB E)))) (H := H) (p := p) (l := l) (e := e) (below := below) (meth := meth) (locs := locs) (cells := cells) (slots := slots) (args := args) ⟨C.1, C.2.1, C.2.2.1, C.2.2.2.1, hts⟩ (hz E D cI l)
    (va_cwS (R := R) n hts (by
      intro w hw9
      rcases List.mem_append.mp hw9 with h | h
      · refine g_tb_good w ?_
        simp only [List.mem_cons, List.not_mem_nil, or_false] at h
        rcases h with rfl | rfl | rfl
        · exact hw.1
        · exact hw.2.1
        · exact hw.2.2.1
      · exact g_good hw.2.2.2 w h) rfl rfl rfl hy ⟨by show dz + 1 ≤ _; omega, by show 8 + (Y.2.2.1 + 11) + 40 * dz ≤ _; omega⟩)
    ⟨g_pcv, fun U hU hW => ⟨rfl, by rw [hU]; exact g_Am_warm hW hS C.2.2.2.2.2.1, by rw [hU]; exact hP⟩⟩ rfl (by rw [List.length_map]; exact hn) hl.1 (by simp [List.map_reverse]) (by show 2 * 0 + _ ≤ 8; rw [g_rest8]; omega) (by exact hd) ⟨by omega, by omega⟩
  refine g_back (a := #[]) (st := st) (r := r) hrun hS fun H1 locs1 hP1 hS1 => ?_
  exact k E D cI p l e R s m args below meth c H1 locs1 (cells + bc1) (slots + bs1) Q ls C hl hP1 hS1 ⟨by omega, by omega, hB.2.2⟩ (fun H2 locs2 k2 n2 pc2 ls2 a1 a2 a3 a4 a5 a6 => hR H2 locs2 k2 n2 pc2 ls2 a1 a2 (by omega) (by omega) a5 a6)
theorem GW_callI {dz bc1 bs1 bc0 bs0 idx n : Nat} {y : MethodName} {Y : gX} {i : Nat} {as : List gV} (hz : g_Met dz bc1 bs1 y Y (vr (some i) :: as) M (none, M2)) (hdz : dz + 1 ≤ d) (hY : Y.2.2.1 ≤ 21) (hret : Y.2.2.2.1 = none) (hy1 : y.name = "<init>") (hy : g_ycl y n)
    (hw : Cond.methodLink X.1 idx y ∈ g_tb ∧ Cond.instanceMethod y ∈ g_tb ∧ Cond.initialized y.cls ∈ g_tb ∧ Cond.code y Y.2.1 Y.2.2.1 Y.2.2.2.1 ∈ g_tb) (hd : decode X.2.1 pc = .ok (.invokespecial idx, 3)) (hn : as.length = n) {st1 : List gV} (hst1 : st1 = as.reverse ++ vr (some i) :: st) (hst : (st.map g_cat).sum ≤ 8) (h1 : bc0 + bc1 ≤ bc) (h2 : bs0 + bs1 ≤ bs)
    (k : GW d bc0 bs0 X (pc + 3) lv st M2 res) : GW d bc bs X pc lv st1 M res := by
  intro E D cI p l e R s m args below meth c H locs cells slots Q ls C hl hP hS hB hR
  have hts := C.2.2.2.2.1
  subst hst1
  obtain ⟨Y1, Y2, Y3, Y4, Y5⟩ := Y
  dsimp only at hret hY hw
  subst hret
  have hrun := va_runI (As := as.map (g_tr (g_EB E))) (rest := st.map (g_tr (g_EB E))) (g := F0 m pc ls ((as.reverse ++ vr (some i) :: st).map (g_tr (g_EB E)))) (H := H) (p := p) (l := l) (e := e) (below := below) (meth := meth) (locs := locs) (cells := cells) (slots := slots) (args := args) (b := g_ad (g_EB E) i) ⟨C.1, C.2.1, C.2.2.1, C.2.2.2.1, hts⟩ (hz E D cI l)
    (cwI (R := R) n hts (g_good (Y := (Y1, Y2, Y3, none, Y5)) hw.2.2.2) rfl rfl rfl (hts _ hw.2.2.1) (hts _ hw.1) (hts _ hw.2.1) hy1 hy ⟨by show dz + 1 ≤ _; omega, by show 8 + (Y3 + 11) + 40 * dz ≤ _; omega⟩)
    ⟨g_pcv, fun U hU hW => ⟨rfl, by rw [hU]; exact g_Am_warm hW hS C.2.2.2.2.2.1, by rw [hU]; exact hP⟩⟩ rfl (by rw [List.length_map]; exact hn) hl.1 (by simp [g_tr, va_rf, List.map_reverse]) (by show 2 * 0 + _ ≤ 8; rw [g_rest8]; omega) (by exact hd) ⟨by omega, by omega⟩
  refine g_back (a := #[]) (st := st) (r := none) hrun hS fun H1 locs1 hP1 hS1 => ?_
  exact k E D cI p l e R s m args below meth c H1 locs1 (cells + bc1) (slots + bs1) Q ls C hl hP1 hS1 ⟨by omega, by omega, hB.2.2⟩ (fun H2 locs2 k2 n2 pc2 ls2 a1 a2 a3 a4 a5 a6 => hR H2 locs2 k2 n2 pc2 ls2 a1 a2 (by omega) (by omega) a5 a6)
theorem GW_callIN {dz bc1 bs1 bc0 bs0 idx n : Nat} {host : String} {y : MethodName} {Y : gX} {i : Nat} {as : List gV} (hz : g_Met dz bc1 bs1 y Y (vr (some i) :: as) M (none, M2)) (hdz : dz + 1 ≤ d) (hY : Y.2.2.1 ≤ 21) (hret : Y.2.2.2.1 = none) (hy1 : y.name = "<init>") (hy : g_ycl y n)
    (hnest : (X.1, idx, y, host) ∈ g_nest) (hw : Cond.instanceMethod y ∈ g_tb ∧ Cond.initialized y.cls ∈ g_tb ∧ Cond.code y Y.2.1 Y.2.2.1 Y.2.2.2.1 ∈ g_tb) (hd : decode X.2.1 pc = .ok (.invokespecial idx, 3)) (hn : as.length = n) {st1 : List gV} (hst1 : st1 = as.reverse ++ vr (some i) :: st) (hst : (st.map g_cat).sum ≤ 8) (h1 : bc0 + bc1 ≤ bc) (h2 : bs0 + bs1 ≤ bs)
    (k : GW d bc0 bs0 X (pc + 3) lv st M2 res) : GW d bc bs X pc lv st1 M res := by
  intro E D cI p l e R s m args below meth c H locs cells slots Q ls C hl hP hS hB hR
  have hts := C.2.2.2.2.1
  subst hst1
  obtain ⟨Y1, Y2, Y3, Y4, Y5⟩ := Y
  dsimp only at hret hY hw
  subst hret
  have hrun := va_runIN (As := as.map (g_tr (g_EB E))) (rest := st.map (g_tr (g_EB E))) (g := F0 m pc ls ((as.reverse ++ vr (some i) :: st).map (g_tr (g_EB E)))) (H := H) (p := p) (l := l) (e := e) (below := below) (meth := meth) (locs := locs) (cells := cells) (slots := slots) (args := args) (b := g_ad (g_EB E) i) ⟨C.1, C.2.1, C.2.2.1, C.2.2.2.1, hts⟩ (hz E D cI l)
    ⟨va_cnB (R := R) (host := host) n hts (g_good (Y := (Y1, Y2, Y3, none, Y5)) hw.2.2) rfl rfl rfl (C.2.2.2.2.2.1.2.2.1 _ hnest) (hts _ hw.2.1) hy ⟨by show dz + 1 ≤ _; omega, by show 8 + (Y3 + 11) + 40 * dz ≤ _; omega⟩, hy1, hts _ hw.1⟩
    ⟨g_pcv, fun U hU hW => ⟨rfl, by rw [hU]; exact g_Am_warm hW hS C.2.2.2.2.2.1, by rw [hU]; exact hP⟩⟩ rfl (by rw [List.length_map]; exact hn) hl.1 (by simp [g_tr, va_rf, List.map_reverse]) (by show 2 * 0 + _ ≤ 8; rw [g_rest8]; omega) (by exact hd) ⟨by omega, by omega⟩
  refine g_back (a := #[]) (st := st) (r := none) hrun hS fun H1 locs1 hP1 hS1 => ?_
  exact k E D cI p l e R s m args below meth c H1 locs1 (cells + bc1) (slots + bs1) Q ls C hl hP1 hS1 ⟨by omega, by omega, hB.2.2⟩ (fun H2 locs2 k2 n2 pc2 ls2 a1 a2 a3 a4 a5 a6 => hR H2 locs2 k2 n2 pc2 ls2 a1 a2 (by omega) (by omega) a5 a6)
theorem GW_callSN {dz bc1 bs1 bc0 bs0 idx n : Nat} {host : String} {y : MethodName} {Y : gX} {as : List gV} {r : Option gV} (hz : g_Met dz bc1 bs1 y Y as M (r, M2)) (hdz : dz + 1 ≤ d) (hY : Y.2.2.1 ≤ 21) (hy : g_ycl y n)
    (hnest : (X.1, idx, y, host) ∈ g_nest) (hw : Cond.static y ∈ g_tb ∧ Cond.initialized y.cls ∈ g_tb ∧ Cond.code y Y.2.1 Y.2.2.1 Y.2.2.2.1 ∈ g_tb) (hd : decode X.2.1 pc = .ok (.invokestatic idx, 3)) (hn : as.length = n) {st1 : List gV} (hst1 : st1 = as.reverse ++ st) (hst : (st.map g_cat).sum ≤ 8) (h1 : bc0 + bc1 ≤ bc) (h2 : bs0 + bs1 ≤ bs)
    {st2 : List gV} (hst2 : r.toList ++ st = st2) (k : GW d bc0 bs0 X (pc + 3) lv st2 M2 res) : GW d bc bs X pc lv st1 M res := by
  subst hst2
  intro E D cI p l e R s m args below meth c H locs cells slots Q ls C hl hP hS hB hR
  have hts := C.2.2.2.2.1
  subst hst1
  have hrun := va_runSN (As := as.map (g_tr (g_EB E))) (rest := st.map (g_tr (g_EB E))) (g := F0 m pc ls ((as.reverse ++ st).map (g_tr (g_EB E)))) (H := H) (p := p) (l := l) (e := e) (below := below) (meth := meth) (locs := locs) (cells := cells) (slots := slots) (args := args) ⟨C.1, C.2.1, C.2.2.1, C.2.2.2.1, hts⟩ (hz E D cI l)
    ⟨va_cnB (R := R) (host := host) n hts (g_good hw.2.2) rfl rfl rfl (C.2.2.2.2.2.1.2.2.1 _ hnest) (hts _ hw.2.1) hy ⟨by show dz + 1 ≤ _; omega, by show 8 + (Y.2.2.1 + 11) + 40 * dz ≤ _; omega⟩, hts _ hw.1, trivial⟩
    ⟨g_pcv, fun U hU hW => ⟨rfl, by rw [hU]; exact g_Am_warm hW hS C.2.2.2.2.2.1, by rw [hU]; exact hP⟩⟩ rfl (by rw [List.length_map]; exact hn) hl.1 (by simp [List.map_reverse]) (by show 2 * 0 + _ ≤ 8; rw [g_rest8]; omega) (by exact hd) ⟨by omega, by omega⟩
  refine g_back (a := #[]) (st := st) (r := r) hrun hS fun H1 locs1 hP1 hS1 => ?_
  exact k E D cI p l e R s m args below meth c H1 locs1 (cells + bc1) (slots + bs1) Q ls C hl hP1 hS1 ⟨by omega, by omega, hB.2.2⟩ (fun H2 locs2 k2 n2 pc2 ls2 a1 a2 a3 a4 a5 a6 => hR H2 locs2 k2 n2 pc2 ls2 a1 a2 (by omega) (by omega) a5 a6)
theorem GW_objInit {idx : Nat} {i : Nat} (hw : Cond.methodLink X.1 idx Lib.objectInit ∈ g_tb ∧ Cond.instanceMethod Lib.objectInit ∈ g_tb ∧ Cond.code Lib.objectInit ⟨#[0xb1]⟩ 1 none ∈ g_tb) (hd : decode X.2.1 pc = .ok (.invokespecial idx, 3)) (hd1 : 1 ≤ d) (hst : (st.map g_cat).sum ≤ 8) (k : GW d bc bs X (pc + 3) lv st M res) : GW d bc bs X pc lv (vr (some i) :: st) M res := by
  intro E D cI p l e R s m args below meth c H locs cells slots Q ls C hl hP hS hB hR
  have hts := C.2.2.2.2.1
  refine W.objInit C.1 C.2.1 C.2.2.2.1 (hts _ hw.1) (hts _ hw.2.1) (hts _ hw.2.2) rfl (by rw [C.2.2.1]; exact hl.1) rfl hd (by omega) (by show 2 * 0 + _ + 12 ≤ _; rw [g_rest8]; omega) ?_
  exact k E D cI p l e R s m args below meth c H locs cells slots Q ls C hl hP hS hB hR
end
