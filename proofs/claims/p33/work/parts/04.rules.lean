section
variable {d bc bs : Nat} {X : gX} {pc : Nat} {lv : List (Nat × gV)} {st : List gV} {M : gM} {res : Option gV × gM}
theorem g_at {B : gB} {ls : Array Slot} {n : Nat} {lv : List (Nat × gV)} (hl : lv_has ls n (g_vals B lv)) (j : Nat) {i : Nat} {v : gV} (hj : lv[j]? = some (i, v)) : ls[i]? = some (.val (g_tr B v)) := by
  refine lv_at hl j ?_
  unfold g_vals
  rw [List.getElem?_map, hj]
  rfl
def g_st1 (i : Nat) (v : gV) (lv : List (Nat × gV)) : List (Nat × gV) := (i, v) :: lv.filter (fun q => !(q.1 == i) && !(q.1 + 1 == i && g_cat q.2 == 2))
def g_st2 (i : Nat) (v : gV) (lv : List (Nat × gV)) : List (Nat × gV) := (i, v) :: lv.filter (fun q => !(q.1 == i) && (!(q.1 == i + 1) && !(q.1 + 1 == i && g_cat q.2 == 2)))
theorem g_st1_vals (B : gB) (i : Nat) (v : gV) (lv : List (Nat × gV)) : (i, g_tr B v) :: (g_vals B lv).filter (fun q => !(q.1 == i) && !(q.1 + 1 == i && q.2.category == 2)) = g_vals B (g_st1 i v lv) := by
  unfold g_vals g_st1
  rw [List.map_cons, List.filter_map]
  congr 3
  funext q
  simp [Function.comp, g_tr_cat]
theorem g_st2_vals (B : gB) (i : Nat) (v : gV) (lv : List (Nat × gV)) : (i, g_tr B v) :: (g_vals B lv).filter (fun q => !(q.1 == i) && (!(q.1 == i + 1) && !(q.1 + 1 == i && q.2.category == 2))) = g_vals B (g_st2 i v lv) := by
  unfold g_vals g_st2
  rw [List.map_cons, List.filter_map]
  congr 3
  funext q
  simp [Function.comp, g_tr_cat]
theorem GW_iconst {n : Int} {v : Int32} (hd : decode X.2.1 pc = .ok (.iconst n, 1)) (hv : Int32.ofInt n = v) (k : GW d bc bs X (pc + 1) lv (vi v :: st) M res) : GW d bc bs X pc lv (st) M res := by
  intro E D cI p l e R s m args below meth c H locs cells slots Q ls C hl hP hS hB hR
  exact lv_iconst C.1 C.2.1 hd hv (k E D cI p l e R s m args below meth c H locs cells slots Q ls C hl hP hS hB hR)
theorem GW_bipush {n : Int} {v : Int32} (hd : decode X.2.1 pc = .ok (.bipush n, 2)) (hv : (Int8.ofInt n).toInt32 = v) (k : GW d bc bs X (pc + 2) lv (vi v :: st) M res) : GW d bc bs X pc lv (st) M res := by
  intro E D cI p l e R s m args below meth c H locs cells slots Q ls C hl hP hS hB hR
  exact lv_bipush C.1 C.2.1 hd hv (k E D cI p l e R s m args below meth c H locs cells slots Q ls C hl hP hS hB hR)
theorem GW_sipush {n : Int} {v : Int32} (hd : decode X.2.1 pc = .ok (.sipush n, 3)) (hv : (Int16.ofInt n).toInt32 = v) (k : GW d bc bs X (pc + 3) lv (vi v :: st) M res) : GW d bc bs X pc lv (st) M res := by
  intro E D cI p l e R s m args below meth c H locs cells slots Q ls C hl hP hS hB hR
  exact lv_sipush C.1 C.2.1 hd hv (k E D cI p l e R s m args below meth c H locs cells slots Q ls C hl hP hS hB hR)
theorem GW_lconst {n : Fin 2} {v : Int64} (hd : decode X.2.1 pc = .ok (.lconst n, 1)) (hv : Int64.ofNat (n : Nat) = v) (k : GW d bc bs X (pc + 1) lv (vl v :: st) M res) : GW d bc bs X pc lv (st) M res := by
  intro E D cI p l e R s m args below meth c H locs cells slots Q ls C hl hP hS hB hR
  exact lv_lconst C.1 C.2.1 hd hv (k E D cI p l e R s m args below meth c H locs cells slots Q ls C hl hP hS hB hR)
theorem GW_null (hd : decode X.2.1 pc = .ok (.aconst_null, 1)) (k : GW d bc bs X (pc + 1) lv (vr none :: st) M res) : GW d bc bs X pc lv (st) M res := by
  intro E D cI p l e R s m args below meth c H locs cells slots Q ls C hl hP hS hB hR
  exact lv_null C.1 C.2.1 hd (k E D cI p l e R s m args below meth c H locs cells slots Q ls C hl hP hS hB hR)
theorem GW_ldc {index : Nat} {v : Int32} (hd : decode X.2.1 pc = .ok (.ldc index, 2)) (hc : Cond.constant X.1 index v ∈ g_tb) (k : GW d bc bs X (pc + 2) lv (vi v :: st) M res) : GW d bc bs X pc lv (st) M res := by
  intro E D cI p l e R s m args below meth c H locs cells slots Q ls C hl hP hS hB hR
  exact lv_ldc C.1 C.2.1 C.2.2.2.1 (C.2.2.2.2.1 _ hc) hd (k E D cI p l e R s m args below meth c H locs cells slots Q ls C hl hP hS hB hR)
theorem GW_ldcw {index : Nat} {v : Int32} (hd : decode X.2.1 pc = .ok (.ldc_w index, 3)) (hc : Cond.constant X.1 index v ∈ g_tb) (k : GW d bc bs X (pc + 3) lv (vi v :: st) M res) : GW d bc bs X pc lv (st) M res := by
  intro E D cI p l e R s m args below meth c H locs cells slots Q ls C hl hP hS hB hR
  exact lv_ldcw C.1 C.2.1 C.2.2.2.1 (C.2.2.2.2.1 _ hc) hd (k E D cI p l e R s m args below meth c H locs cells slots Q ls C hl hP hS hB hR)
theorem GW_ldc2 {index : Nat} {v : Int64} (hd : decode X.2.1 pc = .ok (.ldc2_w index, 3)) (hc : Cond.constantLong X.1 index v ∈ g_tb) (k : GW d bc bs X (pc + 3) lv (vl v :: st) M res) : GW d bc bs X pc lv (st) M res := by
  intro E D cI p l e R s m args below meth c H locs cells slots Q ls C hl hP hS hB hR
  exact lv_ldc2 C.1 C.2.1 C.2.2.2.1 (C.2.2.2.2.1 _ hc) hd (k E D cI p l e R s m args below meth c H locs cells slots Q ls C hl hP hS hB hR)
theorem GW_iload_n {k0 : Fin 4} {i : Nat} {x : Int32} (hd : decode X.2.1 pc = .ok (.iload_n k0, 1)) (hi : (k0 : Nat) = i) (j : Nat) (hj : lv[j]? = some (i, vi x)) (k : GW d bc bs X (pc + 1) lv (vi x :: st) M res) : GW d bc bs X pc lv (st) M res := by
  intro E D cI p l e R s m args below meth c H locs cells slots Q ls C hl hP hS hB hR
  exact lv_iload_n C.1 C.2.1 hd hi (g_at hl j hj) (k E D cI p l e R s m args below meth c H locs cells slots Q ls C hl hP hS hB hR)
theorem GW_iload {i : Nat} {x : Int32} (hd : decode X.2.1 pc = .ok (.iload i, 2)) (j : Nat) (hj : lv[j]? = some (i, vi x)) (k : GW d bc bs X (pc + 2) lv (vi x :: st) M res) : GW d bc bs X pc lv (st) M res := by
  intro E D cI p l e R s m args below meth c H locs cells slots Q ls C hl hP hS hB hR
  exact lv_iload C.1 C.2.1 hd (g_at hl j hj) (k E D cI p l e R s m args below meth c H locs cells slots Q ls C hl hP hS hB hR)
theorem GW_lload_n {k0 : Fin 4} {i : Nat} {x : Int64} (hd : decode X.2.1 pc = .ok (.lload_n k0, 1)) (hi : (k0 : Nat) = i) (j : Nat) (hj : lv[j]? = some (i, vl x)) (k : GW d bc bs X (pc + 1) lv (vl x :: st) M res) : GW d bc bs X pc lv (st) M res := by
  intro E D cI p l e R s m args below meth c H locs cells slots Q ls C hl hP hS hB hR
  exact lv_lload_n C.1 C.2.1 hd hi (g_at hl j hj) (k E D cI p l e R s m args below meth c H locs cells slots Q ls C hl hP hS hB hR)
theorem GW_lload {i : Nat} {x : Int64} (hd : decode X.2.1 pc = .ok (.lload i, 2)) (j : Nat) (hj : lv[j]? = some (i, vl x)) (k : GW d bc bs X (pc + 2) lv (vl x :: st) M res) : GW d bc bs X pc lv (st) M res := by
  intro E D cI p l e R s m args below meth c H locs cells slots Q ls C hl hP hS hB hR
  exact lv_lload C.1 C.2.1 hd (g_at hl j hj) (k E D cI p l e R s m args below meth c H locs cells slots Q ls C hl hP hS hB hR)
theorem GW_aload_n {k0 : Fin 4} {i : Nat} {r : Option Nat} (hd : decode X.2.1 pc = .ok (.aload_n k0, 1)) (hi : (k0 : Nat) = i) (j : Nat) (hj : lv[j]? = some (i, vr r)) (k : GW d bc bs X (pc + 1) lv (vr r :: st) M res) : GW d bc bs X pc lv st M res := by
  intro E D cI p l e R s m args below meth c H locs cells slots Q ls C hl hP hS hB hR
  have h1 := g_at hl j hj
  cases r with
  | none => exact lv_aload_nN C.1 C.2.1 hd hi h1 (k E D cI p l e R s m args below meth c H locs cells slots Q ls C hl hP hS hB hR)
  | some r => exact lv_aload_n C.1 C.2.1 hd hi h1 (k E D cI p l e R s m args below meth c H locs cells slots Q ls C hl hP hS hB hR)
theorem GW_aload {i : Nat} {r : Option Nat} (hd : decode X.2.1 pc = .ok (.aload i, 2)) (j : Nat) (hj : lv[j]? = some (i, vr r)) (k : GW d bc bs X (pc + 2) lv (vr r :: st) M res) : GW d bc bs X pc lv st M res := by
  intro E D cI p l e R s m args below meth c H locs cells slots Q ls C hl hP hS hB hR
  have h1 := g_at hl j hj
  cases r with
  | none => exact lv_aloadN C.1 C.2.1 hd h1 (k E D cI p l e R s m args below meth c H locs cells slots Q ls C hl hP hS hB hR)
  | some r => exact lv_aload C.1 C.2.1 hd h1 (k E D cI p l e R s m args below meth c H locs cells slots Q ls C hl hP hS hB hR)
theorem GW_istore_n {k0 : Fin 4} {i : Nat} {x : Int32} (hd : decode X.2.1 pc = .ok (.istore_n k0, 1)) (hi : (k0 : Nat) = i) (hn : i < X.2.2.1) {lv2 : List (Nat × gV)} (h2 : g_st1 i (vi x) lv = lv2) (k : GW d bc bs X (pc + 1) lv2 st M res) : GW d bc bs X pc lv (vi x :: st) M res := by
  intro E D cI p l e R s m args below meth c H locs cells slots Q ls C hl hP hS hB hR
  exact lv_istore_n C.1 C.2.1 hd hi hl hn (by rw [← h2]; exact g_st1_vals (g_EB E) i (vi x) lv) (fun ls2 hl2 => k E D cI p l e R s m args below meth c H locs cells slots Q ls2 C hl2 hP hS hB hR)
theorem GW_istore {i : Nat} {x : Int32} (hd : decode X.2.1 pc = .ok (.istore i, 2)) (hn : i < X.2.2.1) {lv2 : List (Nat × gV)} (h2 : g_st1 i (vi x) lv = lv2) (k : GW d bc bs X (pc + 2) lv2 st M res) : GW d bc bs X pc lv (vi x :: st) M res := by
  intro E D cI p l e R s m args below meth c H locs cells slots Q ls C hl hP hS hB hR
  exact lv_istore C.1 C.2.1 hd hl hn (by rw [← h2]; exact g_st1_vals (g_EB E) i (vi x) lv) (fun ls2 hl2 => k E D cI p l e R s m args below meth c H locs cells slots Q ls2 C hl2 hP hS hB hR)
theorem GW_lstore_n {k0 : Fin 4} {i : Nat} {x : Int64} (hd : decode X.2.1 pc = .ok (.lstore_n k0, 1)) (hi : (k0 : Nat) = i) (hn : i + 1 < X.2.2.1) {lv2 : List (Nat × gV)} (h2 : g_st2 i (vl x) lv = lv2) (k : GW d bc bs X (pc + 1) lv2 st M res) : GW d bc bs X pc lv (vl x :: st) M res := by
  intro E D cI p l e R s m args below meth c H locs cells slots Q ls C hl hP hS hB hR
  exact lv_lstore_n C.1 C.2.1 hd hi hl hn (by rw [← h2]; exact g_st2_vals (g_EB E) i (vl x) lv) (fun ls2 hl2 => k E D cI p l e R s m args below meth c H locs cells slots Q ls2 C hl2 hP hS hB hR)
theorem GW_lstore {i : Nat} {x : Int64} (hd : decode X.2.1 pc = .ok (.lstore i, 2)) (hn : i + 1 < X.2.2.1) {lv2 : List (Nat × gV)} (h2 : g_st2 i (vl x) lv = lv2) (k : GW d bc bs X (pc + 2) lv2 st M res) : GW d bc bs X pc lv (vl x :: st) M res := by
  intro E D cI p l e R s m args below meth c H locs cells slots Q ls C hl hP hS hB hR
  exact lv_lstore C.1 C.2.1 hd hl hn (by rw [← h2]; exact g_st2_vals (g_EB E) i (vl x) lv) (fun ls2 hl2 => k E D cI p l e R s m args below meth c H locs cells slots Q ls2 C hl2 hP hS hB hR)
theorem GW_astore_n {k0 : Fin 4} {i : Nat} {r : Option Nat} (hd : decode X.2.1 pc = .ok (.astore_n k0, 1)) (hi : (k0 : Nat) = i) (hn : i < X.2.2.1) {lv2 : List (Nat × gV)} (h2 : g_st1 i (vr r) lv = lv2) (k : GW d bc bs X (pc + 1) lv2 st M res) : GW d bc bs X pc lv (vr r :: st) M res := by
  intro E D cI p l e R s m args below meth c H locs cells slots Q ls C hl hP hS hB hR
  have h3 := g_st1_vals (g_EB E) i (vr r) lv
  rw [h2] at h3
  cases r with
  | none => exact lv_astore_nN C.1 C.2.1 hd hi hl hn h3 (fun ls2 hl2 => k E D cI p l e R s m args below meth c H locs cells slots Q ls2 C hl2 hP hS hB hR)
  | some r => exact lv_astore_n C.1 C.2.1 hd hi hl hn h3 (fun ls2 hl2 => k E D cI p l e R s m args below meth c H locs cells slots Q ls2 C hl2 hP hS hB hR)
theorem GW_astore {i : Nat} {r : Option Nat} (hd : decode X.2.1 pc = .ok (.astore i, 2)) (hn : i < X.2.2.1) {lv2 : List (Nat × gV)} (h2 : g_st1 i (vr r) lv = lv2) (k : GW d bc bs X (pc + 2) lv2 st M res) : GW d bc bs X pc lv (vr r :: st) M res := by
  intro E D cI p l e R s m args below meth c H locs cells slots Q ls C hl hP hS hB hR
  have h3 := g_st1_vals (g_EB E) i (vr r) lv
  rw [h2] at h3
  cases r with
  | none => exact lv_astoreN C.1 C.2.1 hd hl hn h3 (fun ls2 hl2 => k E D cI p l e R s m args below meth c H locs cells slots Q ls2 C hl2 hP hS hB hR)
  | some r => exact lv_astore C.1 C.2.1 hd hl hn h3 (fun ls2 hl2 => k E D cI p l e R s m args below meth c H locs cells slots Q ls2 C hl2 hP hS hB hR)
theorem GW_iinc {i j : Nat} {n : Int} {x v : Int32} (hd : decode X.2.1 pc = .ok (.iinc i n, 3)) (hj : lv[j]? = some (i, vi x)) (hv : x + Int32.ofInt n = v) (hn : i < X.2.2.1) {lv2 : List (Nat × gV)} (h2 : g_st1 i (vi v) lv = lv2) (k : GW d bc bs X (pc + 3) lv2 st M res) : GW d bc bs X pc lv st M res := by
  intro E D cI p l e R s m args below meth c H locs cells slots Q ls C hl hP hS hB hR
  exact lv_iinc (k := j) C.1 C.2.1 hd hl (by unfold g_vals; rw [List.getElem?_map, hj]; rfl) hv hn (by rw [← h2]; exact g_st1_vals (g_EB E) i (vi v) lv) (fun ls2 hl2 => k E D cI p l e R s m args below meth c H locs cells slots Q ls2 C hl2 hP hS hB hR)
theorem GW_iadd {x y : Int32} (hd : decode X.2.1 pc = .ok (.iadd, 1)) (k : GW d bc bs X (pc + 1) lv (vi (x + y) :: st) M res) : GW d bc bs X pc lv (vi y :: vi x :: st) M res := by
  intro E D cI p l e R s m args below meth c H locs cells slots Q ls C hl hP hS hB hR
  exact lv_iadd C.1 C.2.1 hd (k E D cI p l e R s m args below meth c H locs cells slots Q ls C hl hP hS hB hR)
theorem GW_isub {x y : Int32} (hd : decode X.2.1 pc = .ok (.isub, 1)) (k : GW d bc bs X (pc + 1) lv (vi (x - y) :: st) M res) : GW d bc bs X pc lv (vi y :: vi x :: st) M res := by
  intro E D cI p l e R s m args below meth c H locs cells slots Q ls C hl hP hS hB hR
  exact lv_isub C.1 C.2.1 hd (k E D cI p l e R s m args below meth c H locs cells slots Q ls C hl hP hS hB hR)
theorem GW_imul {x y : Int32} (hd : decode X.2.1 pc = .ok (.imul, 1)) (k : GW d bc bs X (pc + 1) lv (vi (x * y) :: st) M res) : GW d bc bs X pc lv (vi y :: vi x :: st) M res := by
  intro E D cI p l e R s m args below meth c H locs cells slots Q ls C hl hP hS hB hR
  exact lv_imul C.1 C.2.1 hd (k E D cI p l e R s m args below meth c H locs cells slots Q ls C hl hP hS hB hR)
theorem GW_iand {x y : Int32} (hd : decode X.2.1 pc = .ok (.iand, 1)) (k : GW d bc bs X (pc + 1) lv (vi (x &&& y) :: st) M res) : GW d bc bs X pc lv (vi y :: vi x :: st) M res := by
  intro E D cI p l e R s m args below meth c H locs cells slots Q ls C hl hP hS hB hR
  exact lv_iand C.1 C.2.1 hd (k E D cI p l e R s m args below meth c H locs cells slots Q ls C hl hP hS hB hR)
theorem GW_ior {x y : Int32} (hd : decode X.2.1 pc = .ok (.ior, 1)) (k : GW d bc bs X (pc + 1) lv (vi (x ||| y) :: st) M res) : GW d bc bs X pc lv (vi y :: vi x :: st) M res := by
  intro E D cI p l e R s m args below meth c H locs cells slots Q ls C hl hP hS hB hR
  exact lv_ior C.1 C.2.1 hd (k E D cI p l e R s m args below meth c H locs cells slots Q ls C hl hP hS hB hR)
theorem GW_ixor {x y : Int32} (hd : decode X.2.1 pc = .ok (.ixor, 1)) (k : GW d bc bs X (pc + 1) lv (vi (x ^^^ y) :: st) M res) : GW d bc bs X pc lv (vi y :: vi x :: st) M res := by
  intro E D cI p l e R s m args below meth c H locs cells slots Q ls C hl hP hS hB hR
  exact lv_ixor C.1 C.2.1 hd (k E D cI p l e R s m args below meth c H locs cells slots Q ls C hl hP hS hB hR)
theorem GW_ishl {x y : Int32} (hd : decode X.2.1 pc = .ok (.ishl, 1)) (k : GW d bc bs X (pc + 1) lv (vi (x <<< (y &&& 31)) :: st) M res) : GW d bc bs X pc lv (vi y :: vi x :: st) M res := by
  intro E D cI p l e R s m args below meth c H locs cells slots Q ls C hl hP hS hB hR
  exact lv_ishl C.1 C.2.1 hd (k E D cI p l e R s m args below meth c H locs cells slots Q ls C hl hP hS hB hR)
theorem GW_ishr {x y : Int32} (hd : decode X.2.1 pc = .ok (.ishr, 1)) (k : GW d bc bs X (pc + 1) lv (vi (x >>> (y &&& 31)) :: st) M res) : GW d bc bs X pc lv (vi y :: vi x :: st) M res := by
  intro E D cI p l e R s m args below meth c H locs cells slots Q ls C hl hP hS hB hR
  exact lv_ishr C.1 C.2.1 hd (k E D cI p l e R s m args below meth c H locs cells slots Q ls C hl hP hS hB hR)
theorem GW_idiv {x y : Int32} (hd : decode X.2.1 pc = .ok (.idiv, 1)) (hne : ¬ y = 0) (k : GW d bc bs X (pc + 1) lv (vi (x / y) :: st) M res) : GW d bc bs X pc lv (vi y :: vi x :: st) M res := by
  intro E D cI p l e R s m args below meth c H locs cells slots Q ls C hl hP hS hB hR
  exact lv_idiv C.1 C.2.1 hd hne (k E D cI p l e R s m args below meth c H locs cells slots Q ls C hl hP hS hB hR)
theorem GW_irem {x y : Int32} (hd : decode X.2.1 pc = .ok (.irem, 1)) (hne : ¬ y = 0) (k : GW d bc bs X (pc + 1) lv (vi (x - x / y * y) :: st) M res) : GW d bc bs X pc lv (vi y :: vi x :: st) M res := by
  intro E D cI p l e R s m args below meth c H locs cells slots Q ls C hl hP hS hB hR
  exact lv_irem C.1 C.2.1 hd hne (k E D cI p l e R s m args below meth c H locs cells slots Q ls C hl hP hS hB hR)
theorem GW_ineg {x : Int32} (hd : decode X.2.1 pc = .ok (.ineg, 1)) (k : GW d bc bs X (pc + 1) lv (vi (-x) :: st) M res) : GW d bc bs X pc lv (vi x :: st) M res := by
  intro E D cI p l e R s m args below meth c H locs cells slots Q ls C hl hP hS hB hR
  exact lv_ineg C.1 C.2.1 hd (k E D cI p l e R s m args below meth c H locs cells slots Q ls C hl hP hS hB hR)
theorem GW_ladd {x y : Int64} (hd : decode X.2.1 pc = .ok (.ladd, 1)) (k : GW d bc bs X (pc + 1) lv (vl (x + y) :: st) M res) : GW d bc bs X pc lv (vl y :: vl x :: st) M res := by
  intro E D cI p l e R s m args below meth c H locs cells slots Q ls C hl hP hS hB hR
  exact lv_ladd C.1 C.2.1 hd (k E D cI p l e R s m args below meth c H locs cells slots Q ls C hl hP hS hB hR)
theorem GW_lsub {x y : Int64} (hd : decode X.2.1 pc = .ok (.lsub, 1)) (k : GW d bc bs X (pc + 1) lv (vl (x - y) :: st) M res) : GW d bc bs X pc lv (vl y :: vl x :: st) M res := by
  intro E D cI p l e R s m args below meth c H locs cells slots Q ls C hl hP hS hB hR
  exact lv_lsub C.1 C.2.1 hd (k E D cI p l e R s m args below meth c H locs cells slots Q ls C hl hP hS hB hR)
theorem GW_lmul {x y : Int64} (hd : decode X.2.1 pc = .ok (.lmul, 1)) (k : GW d bc bs X (pc + 1) lv (vl (x * y) :: st) M res) : GW d bc bs X pc lv (vl y :: vl x :: st) M res := by
  intro E D cI p l e R s m args below meth c H locs cells slots Q ls C hl hP hS hB hR
  exact lv_lmul C.1 C.2.1 hd (k E D cI p l e R s m args below meth c H locs cells slots Q ls C hl hP hS hB hR)
theorem GW_land {x y : Int64} (hd : decode X.2.1 pc = .ok (.land, 1)) (k : GW d bc bs X (pc + 1) lv (vl (x &&& y) :: st) M res) : GW d bc bs X pc lv (vl y :: vl x :: st) M res := by
  intro E D cI p l e R s m args below meth c H locs cells slots Q ls C hl hP hS hB hR
  exact lv_land C.1 C.2.1 hd (k E D cI p l e R s m args below meth c H locs cells slots Q ls C hl hP hS hB hR)
theorem GW_lor {x y : Int64} (hd : decode X.2.1 pc = .ok (.lor, 1)) (k : GW d bc bs X (pc + 1) lv (vl (x ||| y) :: st) M res) : GW d bc bs X pc lv (vl y :: vl x :: st) M res := by
  intro E D cI p l e R s m args below meth c H locs cells slots Q ls C hl hP hS hB hR
  exact lv_lor C.1 C.2.1 hd (k E D cI p l e R s m args below meth c H locs cells slots Q ls C hl hP hS hB hR)
theorem GW_ldiv {x y : Int64} (hd : decode X.2.1 pc = .ok (.ldiv, 1)) (hne : ¬ y = 0) (k : GW d bc bs X (pc + 1) lv (vl (x / y) :: st) M res) : GW d bc bs X pc lv (vl y :: vl x :: st) M res := by
  intro E D cI p l e R s m args below meth c H locs cells slots Q ls C hl hP hS hB hR
  exact lv_ldiv C.1 C.2.1 hd hne (k E D cI p l e R s m args below meth c H locs cells slots Q ls C hl hP hS hB hR)
theorem GW_lrem {x y : Int64} (hd : decode X.2.1 pc = .ok (.lrem, 1)) (hne : ¬ y = 0) (k : GW d bc bs X (pc + 1) lv (vl (x - x / y * y) :: st) M res) : GW d bc bs X pc lv (vl y :: vl x :: st) M res := by
  intro E D cI p l e R s m args below meth c H locs cells slots Q ls C hl hP hS hB hR
  exact lv_lrem C.1 C.2.1 hd hne (k E D cI p l e R s m args below meth c H locs cells slots Q ls C hl hP hS hB hR)
theorem GW_lshl {x : Int64} {y : Int32} (hd : decode X.2.1 pc = .ok (.lshl, 1)) (k : GW d bc bs X (pc + 1) lv (vl (x <<< (y.toInt64 &&& 63)) :: st) M res) : GW d bc bs X pc lv (vi y :: vl x :: st) M res := by
  intro E D cI p l e R s m args below meth c H locs cells slots Q ls C hl hP hS hB hR
  exact lv_lshl C.1 C.2.1 hd rfl (k E D cI p l e R s m args below meth c H locs cells slots Q ls C hl hP hS hB hR)
theorem GW_i2l {x : Int32} (hd : decode X.2.1 pc = .ok (.i2l, 1)) (k : GW d bc bs X (pc + 1) lv (vl x.toInt64 :: st) M res) : GW d bc bs X pc lv (vi x :: st) M res := by
  intro E D cI p l e R s m args below meth c H locs cells slots Q ls C hl hP hS hB hR
  exact lv_i2l C.1 C.2.1 hd rfl (k E D cI p l e R s m args below meth c H locs cells slots Q ls C hl hP hS hB hR)
theorem GW_l2i {x : Int64} (hd : decode X.2.1 pc = .ok (.l2i, 1)) (k : GW d bc bs X (pc + 1) lv (vi x.toInt32 :: st) M res) : GW d bc bs X pc lv (vl x :: st) M res := by
  intro E D cI p l e R s m args below meth c H locs cells slots Q ls C hl hP hS hB hR
  exact lv_l2i C.1 C.2.1 hd rfl (k E D cI p l e R s m args below meth c H locs cells slots Q ls C hl hP hS hB hR)
theorem GW_i2b {x : Int32} (hd : decode X.2.1 pc = .ok (.i2b, 1)) (k : GW d bc bs X (pc + 1) lv (vi x.toInt8.toInt32 :: st) M res) : GW d bc bs X pc lv (vi x :: st) M res := by
  intro E D cI p l e R s m args below meth c H locs cells slots Q ls C hl hP hS hB hR
  exact lv_i2b C.1 C.2.1 hd rfl (k E D cI p l e R s m args below meth c H locs cells slots Q ls C hl hP hS hB hR)
theorem GW_iushr {x y : Int32} (hd : decode X.2.1 pc = .ok (.iushr, 1)) (k : GW d bc bs X (pc + 1) lv (vi (x.toUInt32 >>> (y.toUInt32 &&& Int32.toUInt32 31)).toInt32 :: st) M res) : GW d bc bs X pc lv (vi y :: vi x :: st) M res := by
  intro E D cI p l e R s m args below meth c H locs cells slots Q ls C hl hP hS hB hR
  exact lv_iushr C.1 C.2.1 hd rfl (k E D cI p l e R s m args below meth c H locs cells slots Q ls C hl hP hS hB hR)
theorem GW_lcmp {x y : Int64} (hd : decode X.2.1 pc = .ok (.lcmp, 1)) (k : GW d bc bs X (pc + 1) lv (vi (lg_cmp x y) :: st) M res) : GW d bc bs X pc lv (vl y :: vl x :: st) M res := by
  intro E D cI p l e R s m args below meth c H locs cells slots Q ls C hl hP hS hB hR
  exact W.lcmp C.1 C.2.1 hd (k E D cI p l e R s m args below meth c H locs cells slots Q ls C hl hP hS hB hR)
theorem GW_dup {v : gV} (hd : decode X.2.1 pc = .ok (.dup, 1)) (hv : g_cat v = 1) (k : GW d bc bs X (pc + 1) lv (v :: v :: st) M res) : GW d bc bs X pc lv (v :: st) M res := by
  intro E D cI p l e R s m args below meth c H locs cells slots Q ls C hl hP hS hB hR
  exact lv_dup C.1 C.2.1 hd (by rw [g_tr_cat]; exact hv) (k E D cI p l e R s m args below meth c H locs cells slots Q ls C hl hP hS hB hR)
theorem GW_pop {v : gV} (hd : decode X.2.1 pc = .ok (.pop, 1)) (hv : g_cat v = 1) (k : GW d bc bs X (pc + 1) lv (st) M res) : GW d bc bs X pc lv (v :: st) M res := by
  intro E D cI p l e R s m args below meth c H locs cells slots Q ls C hl hP hS hB hR
  exact lv_pop C.1 C.2.1 hd (by rw [g_tr_cat]; exact hv) (k E D cI p l e R s m args below meth c H locs cells slots Q ls C hl hP hS hB hR)
theorem GW_pop2 {v : gV} (hd : decode X.2.1 pc = .ok (.pop2, 1)) (hv : g_cat v = 2) (k : GW d bc bs X (pc + 1) lv (st) M res) : GW d bc bs X pc lv (v :: st) M res := by
  intro E D cI p l e R s m args below meth c H locs cells slots Q ls C hl hP hS hB hR
  exact lv_pop2_2 C.1 C.2.1 hd (by rw [g_tr_cat]; exact hv) (k E D cI p l e R s m args below meth c H locs cells slots Q ls C hl hP hS hB hR)
theorem GW_dup2 {v w : gV} (hd : decode X.2.1 pc = .ok (.dup2, 1)) (hv : g_cat v = 1) (hw : g_cat w = 1) (k : GW d bc bs X (pc + 1) lv (v :: w :: v :: w :: st) M res) : GW d bc bs X pc lv (v :: w :: st) M res := by
  intro E D cI p l e R s m args below meth c H locs cells slots Q ls C hl hP hS hB hR
  exact lv_dup2_11 C.1 C.2.1 hd (by rw [g_tr_cat]; exact hv) (by rw [g_tr_cat]; exact hw) (k E D cI p l e R s m args below meth c H locs cells slots Q ls C hl hP hS hB hR)
theorem GW_dup_x1 {v w : gV} (hd : decode X.2.1 pc = .ok (.dup_x1, 1)) (hv : g_cat v = 1) (hw : g_cat w = 1) (k : GW d bc bs X (pc + 1) lv (v :: w :: v :: st) M res) : GW d bc bs X pc lv (v :: w :: st) M res := by
  intro E D cI p l e R s m args below meth c H locs cells slots Q ls C hl hP hS hB hR
  exact lv_dup_x1 C.1 C.2.1 hd (by rw [g_tr_cat]; exact hv) (by rw [g_tr_cat]; exact hw) (k E D cI p l e R s m args below meth c H locs cells slots Q ls C hl hP hS hB hR)
theorem GW_if_eq {x : Int32} {off : Int} (tgt : Nat) (hd : decode X.2.1 pc = .ok (.ifCond .eq off, 3)) (ht : (pc : Int) + off = (tgt : Int)) (kt : x = 0 → GW d bc bs X tgt lv st M res) (kf : ¬ x = 0 → GW d bc bs X (pc + 3) lv st M res) : GW d bc bs X pc lv (vi x :: st) M res := by
  intro E D cI p l e R s m args below meth c H locs cells slots Q ls C hl hP hS hB hR
  exact lv_if_eq C.1 C.2.1 hd ht (fun h => kt h E D cI p l e R s m args below meth c H locs cells slots Q ls C hl hP hS hB hR) (fun h => kf h E D cI p l e R s m args below meth c H locs cells slots Q ls C hl hP hS hB hR)
theorem GW_icmp_eq {x y : Int32} {off : Int} (tgt : Nat) (hd : decode X.2.1 pc = .ok (.if_icmp .eq off, 3)) (ht : (pc : Int) + off = (tgt : Int)) (kt : x = y → GW d bc bs X tgt lv st M res) (kf : ¬ x = y → GW d bc bs X (pc + 3) lv st M res) : GW d bc bs X pc lv (vi y :: vi x :: st) M res := by
  intro E D cI p l e R s m args below meth c H locs cells slots Q ls C hl hP hS hB hR
  exact lv_icmp_eq C.1 C.2.1 hd ht (fun h => kt h E D cI p l e R s m args below meth c H locs cells slots Q ls C hl hP hS hB hR) (fun h => kf h E D cI p l e R s m args below meth c H locs cells slots Q ls C hl hP hS hB hR)
theorem GW_if_ne {x : Int32} {off : Int} (tgt : Nat) (hd : decode X.2.1 pc = .ok (.ifCond .ne off, 3)) (ht : (pc : Int) + off = (tgt : Int)) (kt : ¬ x = 0 → GW d bc bs X tgt lv st M res) (kf : x = 0 → GW d bc bs X (pc + 3) lv st M res) : GW d bc bs X pc lv (vi x :: st) M res := by
  intro E D cI p l e R s m args below meth c H locs cells slots Q ls C hl hP hS hB hR
  exact lv_if_ne C.1 C.2.1 hd ht (fun h => kt h E D cI p l e R s m args below meth c H locs cells slots Q ls C hl hP hS hB hR) (fun h => kf h E D cI p l e R s m args below meth c H locs cells slots Q ls C hl hP hS hB hR)
theorem GW_icmp_ne {x y : Int32} {off : Int} (tgt : Nat) (hd : decode X.2.1 pc = .ok (.if_icmp .ne off, 3)) (ht : (pc : Int) + off = (tgt : Int)) (kt : ¬ x = y → GW d bc bs X tgt lv st M res) (kf : x = y → GW d bc bs X (pc + 3) lv st M res) : GW d bc bs X pc lv (vi y :: vi x :: st) M res := by
  intro E D cI p l e R s m args below meth c H locs cells slots Q ls C hl hP hS hB hR
  exact lv_icmp_ne C.1 C.2.1 hd ht (fun h => kt h E D cI p l e R s m args below meth c H locs cells slots Q ls C hl hP hS hB hR) (fun h => kf h E D cI p l e R s m args below meth c H locs cells slots Q ls C hl hP hS hB hR)
theorem GW_if_lt {x : Int32} {off : Int} (tgt : Nat) (hd : decode X.2.1 pc = .ok (.ifCond .lt off, 3)) (ht : (pc : Int) + off = (tgt : Int)) (kt : x < 0 → GW d bc bs X tgt lv st M res) (kf : ¬ x < 0 → GW d bc bs X (pc + 3) lv st M res) : GW d bc bs X pc lv (vi x :: st) M res := by
  intro E D cI p l e R s m args below meth c H locs cells slots Q ls C hl hP hS hB hR
  exact lv_if_lt C.1 C.2.1 hd ht (fun h => kt h E D cI p l e R s m args below meth c H locs cells slots Q ls C hl hP hS hB hR) (fun h => kf h E D cI p l e R s m args below meth c H locs cells slots Q ls C hl hP hS hB hR)
theorem GW_icmp_lt {x y : Int32} {off : Int} (tgt : Nat) (hd : decode X.2.1 pc = .ok (.if_icmp .lt off, 3)) (ht : (pc : Int) + off = (tgt : Int)) (kt : x < y → GW d bc bs X tgt lv st M res) (kf : ¬ x < y → GW d bc bs X (pc + 3) lv st M res) : GW d bc bs X pc lv (vi y :: vi x :: st) M res := by
  intro E D cI p l e R s m args below meth c H locs cells slots Q ls C hl hP hS hB hR
  exact lv_icmp_lt C.1 C.2.1 hd ht (fun h => kt h E D cI p l e R s m args below meth c H locs cells slots Q ls C hl hP hS hB hR) (fun h => kf h E D cI p l e R s m args below meth c H locs cells slots Q ls C hl hP hS hB hR)
theorem GW_if_ge {x : Int32} {off : Int} (tgt : Nat) (hd : decode X.2.1 pc = .ok (.ifCond .ge off, 3)) (ht : (pc : Int) + off = (tgt : Int)) (kt : 0 ≤ x → GW d bc bs X tgt lv st M res) (kf : ¬ 0 ≤ x → GW d bc bs X (pc + 3) lv st M res) : GW d bc bs X pc lv (vi x :: st) M res := by
  intro E D cI p l e R s m args below meth c H locs cells slots Q ls C hl hP hS hB hR
  exact lv_if_ge C.1 C.2.1 hd ht (fun h => kt h E D cI p l e R s m args below meth c H locs cells slots Q ls C hl hP hS hB hR) (fun h => kf h E D cI p l e R s m args below meth c H locs cells slots Q ls C hl hP hS hB hR)
theorem GW_icmp_ge {x y : Int32} {off : Int} (tgt : Nat) (hd : decode X.2.1 pc = .ok (.if_icmp .ge off, 3)) (ht : (pc : Int) + off = (tgt : Int)) (kt : y ≤ x → GW d bc bs X tgt lv st M res) (kf : ¬ y ≤ x → GW d bc bs X (pc + 3) lv st M res) : GW d bc bs X pc lv (vi y :: vi x :: st) M res := by
  intro E D cI p l e R s m args below meth c H locs cells slots Q ls C hl hP hS hB hR
  exact lv_icmp_ge C.1 C.2.1 hd ht (fun h => kt h E D cI p l e R s m args below meth c H locs cells slots Q ls C hl hP hS hB hR) (fun h => kf h E D cI p l e R s m args below meth c H locs cells slots Q ls C hl hP hS hB hR)
theorem GW_if_gt {x : Int32} {off : Int} (tgt : Nat) (hd : decode X.2.1 pc = .ok (.ifCond .gt off, 3)) (ht : (pc : Int) + off = (tgt : Int)) (kt : 0 < x → GW d bc bs X tgt lv st M res) (kf : ¬ 0 < x → GW d bc bs X (pc + 3) lv st M res) : GW d bc bs X pc lv (vi x :: st) M res := by
  intro E D cI p l e R s m args below meth c H locs cells slots Q ls C hl hP hS hB hR
  exact lv_if_gt C.1 C.2.1 hd ht (fun h => kt h E D cI p l e R s m args below meth c H locs cells slots Q ls C hl hP hS hB hR) (fun h => kf h E D cI p l e R s m args below meth c H locs cells slots Q ls C hl hP hS hB hR)
theorem GW_icmp_gt {x y : Int32} {off : Int} (tgt : Nat) (hd : decode X.2.1 pc = .ok (.if_icmp .gt off, 3)) (ht : (pc : Int) + off = (tgt : Int)) (kt : y < x → GW d bc bs X tgt lv st M res) (kf : ¬ y < x → GW d bc bs X (pc + 3) lv st M res) : GW d bc bs X pc lv (vi y :: vi x :: st) M res := by
  intro E D cI p l e R s m args below meth c H locs cells slots Q ls C hl hP hS hB hR
  exact lv_icmp_gt C.1 C.2.1 hd ht (fun h => kt h E D cI p l e R s m args below meth c H locs cells slots Q ls C hl hP hS hB hR) (fun h => kf h E D cI p l e R s m args below meth c H locs cells slots Q ls C hl hP hS hB hR)
theorem GW_if_le {x : Int32} {off : Int} (tgt : Nat) (hd : decode X.2.1 pc = .ok (.ifCond .le off, 3)) (ht : (pc : Int) + off = (tgt : Int)) (kt : x ≤ 0 → GW d bc bs X tgt lv st M res) (kf : ¬ x ≤ 0 → GW d bc bs X (pc + 3) lv st M res) : GW d bc bs X pc lv (vi x :: st) M res := by
  intro E D cI p l e R s m args below meth c H locs cells slots Q ls C hl hP hS hB hR
  exact lv_if_le C.1 C.2.1 hd ht (fun h => kt h E D cI p l e R s m args below meth c H locs cells slots Q ls C hl hP hS hB hR) (fun h => kf h E D cI p l e R s m args below meth c H locs cells slots Q ls C hl hP hS hB hR)
theorem GW_icmp_le {x y : Int32} {off : Int} (tgt : Nat) (hd : decode X.2.1 pc = .ok (.if_icmp .le off, 3)) (ht : (pc : Int) + off = (tgt : Int)) (kt : x ≤ y → GW d bc bs X tgt lv st M res) (kf : ¬ x ≤ y → GW d bc bs X (pc + 3) lv st M res) : GW d bc bs X pc lv (vi y :: vi x :: st) M res := by
  intro E D cI p l e R s m args below meth c H locs cells slots Q ls C hl hP hS hB hR
  exact lv_icmp_le C.1 C.2.1 hd ht (fun h => kt h E D cI p l e R s m args below meth c H locs cells slots Q ls C hl hP hS hB hR) (fun h => kf h E D cI p l e R s m args below meth c H locs cells slots Q ls C hl hP hS hB hR)
theorem GW_goto {off : Int} (tgt : Nat) (hd : decode X.2.1 pc = .ok (.goto off, 3)) (ht : (pc : Int) + off = (tgt : Int)) (k : GW d bc bs X tgt lv st M res) : GW d bc bs X pc lv st M res := by
  intro E D cI p l e R s m args below meth c H locs cells slots Q ls C hl hP hS hB hR
  exact lv_goto C.1 C.2.1 hd ht (k E D cI p l e R s m args below meth c H locs cells slots Q ls C hl hP hS hB hR)
theorem GW_ifnull {r : Option Nat} {off : Int} (tgt : Nat) (hd : decode X.2.1 pc = .ok (.ifnull off, 3)) (ht : (pc : Int) + off = (tgt : Int)) (kt : r = none → GW d bc bs X tgt lv st M res) (kf : ¬ r = none → GW d bc bs X (pc + 3) lv st M res) : GW d bc bs X pc lv (vr r :: st) M res := by
  intro E D cI p l e R s m args below meth c H locs cells slots Q ls C hl hP hS hB hR
  cases r with
  | none => exact lv_ifnullN C.1 C.2.1 hd ht (kt rfl E D cI p l e R s m args below meth c H locs cells slots Q ls C hl hP hS hB hR)
  | some r => exact lv_ifnull C.1 C.2.1 hd (kf (by simp) E D cI p l e R s m args below meth c H locs cells slots Q ls C hl hP hS hB hR)
theorem GW_ifnonnull {r : Option Nat} {off : Int} (tgt : Nat) (hd : decode X.2.1 pc = .ok (.ifnonnull off, 3)) (ht : (pc : Int) + off = (tgt : Int)) (kt : ¬ r = none → GW d bc bs X tgt lv st M res) (kf : r = none → GW d bc bs X (pc + 3) lv st M res) : GW d bc bs X pc lv (vr r :: st) M res := by
  intro E D cI p l e R s m args below meth c H locs cells slots Q ls C hl hP hS hB hR
  cases r with
  | none => exact lv_ifnonnullN C.1 C.2.1 hd (kf rfl E D cI p l e R s m args below meth c H locs cells slots Q ls C hl hP hS hB hR)
  | some r => exact lv_ifnonnull C.1 C.2.1 hd ht (kt (by simp) E D cI p l e R s m args below meth c H locs cells slots Q ls C hl hP hS hB hR)
theorem GW_lookup {x : Int32} {dflt : Int} {ps : Array (Int × Int)} {len : Nat} {off : Int} (tgt : Nat) (hd : decode X.2.1 pc = .ok (.lookupswitch dflt ps, len)) (hp : (ps.toList.zip (ps.toList.drop 1)).all (fun (a, next) => a.1 < next.1) = true) (ho : Op.lookupswitch.offset ps.toList dflt x.toInt = off) (ht : (pc : Int) + off = (tgt : Int)) (k : GW d bc bs X tgt lv st M res) : GW d bc bs X pc lv (vi x :: st) M res := by
  intro E D cI p l e R s m args below meth c H locs cells slots Q ls C hl hP hS hB hR
  exact lv_lookup C.1 C.2.1 hd hp ho ht (k E D cI p l e R s m args below meth c H locs cells slots Q ls C hl hP hS hB hR)
theorem GW_tableOut {x : Int32} {dflt lo hi : Int} {offs : Array Int} {len : Nat} (tgt : Nat) (hd : decode X.2.1 pc = .ok (.tableswitch dflt lo hi offs, len)) (h : x.toInt < lo ∨ hi < x.toInt) (ht : (pc : Int) + dflt = (tgt : Int)) (k : GW d bc bs X tgt lv st M res) : GW d bc bs X pc lv (vi x :: st) M res := by
  intro E D cI p l e R s m args below meth c H locs cells slots Q ls C hl hP hS hB hR
  exact lv_tableOut C.1 C.2.1 hd h ht (k E D cI p l e R s m args below meth c H locs cells slots Q ls C hl hP hS hB hR)
theorem GW_tableIn {x : Int32} {dflt lo hi : Int} {offs : Array Int} {len : Nat} {off : Int} (tgt : Nat) (hd : decode X.2.1 pc = .ok (.tableswitch dflt lo hi offs, len)) (h1 : ¬ x.toInt < lo) (h2 : ¬ hi < x.toInt) (ho : offs[(x.toInt - lo).toNat]? = some off) (ht : (pc : Int) + off = (tgt : Int)) (k : GW d bc bs X tgt lv st M res) : GW d bc bs X pc lv (vi x :: st) M res := by
  intro E D cI p l e R s m args below meth c H locs cells slots Q ls C hl hP hS hB hR
  exact lv_tableIn C.1 C.2.1 hd h1 h2 ho ht (k E D cI p l e R s m args below meth c H locs cells slots Q ls C hl hP hS hB hR)
end
