/-! constants, stores, branches, ends -/
def qc_s1 (i : Nat) (v : Value) (lv : List (Nat × Value)) : List (Nat × Value) := (i, v) :: lv.filter (fun q => !(q.1 == i) && !(q.1 + 1 == i && q.2.category == 2))
def qc_s2 (i : Nat) (v : Value) (lv : List (Nat × Value)) : List (Nat × Value) := (i, v) :: lv.filter (fun q => !(q.1 == i) && (!(q.1 == i + 1) && !(q.1 + 1 == i && q.2.category == 2)))
theorem qc_s1_map (f : Nat → Nat) (i : Nat) (v : Value) (lv : List (Nat × Value)) : (i, qc_cv f v) :: (lv.map (qc_cp f)).filter (fun q => !(q.1 == i) && !(q.1 + 1 == i && q.2.category == 2)) = (qc_s1 i v lv).map (qc_cp f) := by
  unfold qc_s1
  rw [List.map_cons, List.filter_map]
  congr 1
  congr 1
  apply List.filter_congr
  intro q _
  simp only [Function.comp, qc_cp, qc_cat]
theorem qc_s2_map (f : Nat → Nat) (i : Nat) (v : Value) (lv : List (Nat × Value)) : (i, qc_cv f v) :: (lv.map (qc_cp f)).filter (fun q => !(q.1 == i) && (!(q.1 == i + 1) && !(q.1 + 1 == i && q.2.category == 2))) = (qc_s2 i v lv).map (qc_cp f) := by
  unfold qc_s2
  rw [List.map_cons, List.filter_map]
  congr 1
  congr 1
  apply List.filter_congr
  intro q _
  simp only [Function.comp, qc_cp, qc_cat]
theorem qc_ck_mem {o n : Nat} {v : Value} (h : qc_ckL.any (fun q => Nat.beq q.1 o && Nat.beq q.2.1 n && decide (q.2.2.1 = v)) = true) : ∃ p, qc_cword (o, n, v, p) ∈ qc_wg := by
  obtain ⟨q, hq, h1⟩ := List.any_eq_true.mp h
  simp only [Bool.and_eq_true, decide_eq_true_eq] at h1
  obtain ⟨⟨h2, h3⟩, h4⟩ := h1
  have h2 := Nat.eq_of_beq_eq_true h2
  have h3 := Nat.eq_of_beq_eq_true h3
  have h5 := List.all_eq_true.mp qc_ckL_ok q hq
  simp only [Bool.and_eq_true, decide_eq_true_eq] at h5
  obtain ⟨q1, q2, q3, q4⟩ := q
  subst h2; subst h3; subst h4
  exact ⟨q4, List.mem_filter.mpr ⟨List.mem_of_getElem? h5.1, h5.2⟩⟩
section QCF
variable {R : Room} {mi : qcI} {QQ : qcQ} {cu su : Nat} {w : qcW} {pc pc' : Nat} {lv lv' : List (Nat × Value)} {st : List Value} {M : qcM} {a b : Nat} {v : Value}
theorem qc_iconst {n : Int} {x : Int32} (hd : qc_d mi (pc, pc', .iconst n, a, b, .int x)) (k : qc_X R mi QQ cu su w (pc', lv, .int x :: st, M)) : qc_X R mi QQ cu su w (pc, lv, st, M) := by
  obtain ⟨rfl, hdg⟩ := hd.of (n := 0) rfl
  have ha : Value.int x = .int (Int32.ofInt n) := of_decide_eq_true hd.aux
  cases ha
  intro p l e s m args below meth c0 g H locs ls C D S L
  exact lv_iconst C.1 C.2.1 hdg rfl (k p l e s m args below meth c0 g H locs ls C D S L)
theorem qc_bipush {n : Int} {x : Int32} (hd : qc_d mi (pc, pc', .bipush n, a, b, .int x)) (k : qc_X R mi QQ cu su w (pc', lv, .int x :: st, M)) : qc_X R mi QQ cu su w (pc, lv, st, M) := by
  obtain ⟨rfl, hdg⟩ := hd.of (n := 1) rfl
  have ha : Value.int x = .int (Int8.ofInt n).toInt32 := of_decide_eq_true hd.aux
  cases ha
  intro p l e s m args below meth c0 g H locs ls C D S L
  exact lv_bipush C.1 C.2.1 hdg rfl (k p l e s m args below meth c0 g H locs ls C D S L)
theorem qc_sipush {n : Int} {x : Int32} (hd : qc_d mi (pc, pc', .sipush n, a, b, .int x)) (k : qc_X R mi QQ cu su w (pc', lv, .int x :: st, M)) : qc_X R mi QQ cu su w (pc, lv, st, M) := by
  obtain ⟨rfl, hdg⟩ := hd.of (n := 2) rfl
  have ha : Value.int x = .int (Int16.ofInt n).toInt32 := of_decide_eq_true hd.aux
  cases ha
  intro p l e s m args below meth c0 g H locs ls C D S L
  exact lv_sipush C.1 C.2.1 hdg rfl (k p l e s m args below meth c0 g H locs ls C D S L)
theorem qc_lconst {n : Fin 2} {x : Int64} (hd : qc_d mi (pc, pc', .lconst n, a, b, .long x)) (k : qc_X R mi QQ cu su w (pc', lv, .long x :: st, M)) : qc_X R mi QQ cu su w (pc, lv, st, M) := by
  obtain ⟨rfl, hdg⟩ := hd.of (n := 0) rfl
  have ha : Value.long x = .long (Int64.ofNat n) := of_decide_eq_true hd.aux
  cases ha
  intro p l e s m args below meth c0 g H locs ls C D S L
  exact lv_lconst C.1 C.2.1 hdg rfl (k p l e s m args below meth c0 g H locs ls C D S L)
theorem qc_dconst {n : Fin 2} {x : UInt64} (hd : qc_d mi (pc, pc', .dconst n, a, b, .double x)) (k : qc_X R mi QQ cu su w (pc', lv, .double x :: st, M)) : qc_X R mi QQ cu su w (pc, lv, st, M) := by
  obtain ⟨rfl, hdg⟩ := hd.of (n := 0) rfl
  have ha : Value.double x = .double (if n = 0 then FP.dconst0 else FP.dconst1) := of_decide_eq_true hd.aux
  cases ha
  intro p l e s m args below meth c0 g H locs ls C D S L
  match n, hdg, k with
  | 0, hdg, k => exact lv_dconst0 C.1 C.2.1 hdg (k p l e s m args below meth c0 g H locs ls C D S L)
  | 1, hdg, k => exact lv_dconst1 C.1 C.2.1 hdg (k p l e s m args below meth c0 g H locs ls C D S L)
theorem qc_ldc {n : Nat} {x : Int32} (hd : qc_d mi (pc, pc', .ldc n, a, b, .int x)) (k : qc_X R mi QQ cu su w (pc', lv, .int x :: st, M)) : qc_X R mi QQ cu su w (pc, lv, st, M) := by
  obtain ⟨rfl, hdg⟩ := hd.of (n := 1) rfl
  obtain ⟨q, hq⟩ := qc_ck_mem hd.aux
  intro p l e s m args below meth c0 g H locs ls C D S L
  exact lv_ldc C.1 C.2.1 C.2.2.2.2.1 (C.2.2.2.2.2.1 _ hq) hdg (k p l e s m args below meth c0 g H locs ls C D S L)
theorem qc_ldc2l {n : Nat} {x : Int64} (hd : qc_d mi (pc, pc', .ldc2_w n, a, b, .long x)) (k : qc_X R mi QQ cu su w (pc', lv, .long x :: st, M)) : qc_X R mi QQ cu su w (pc, lv, st, M) := by
  obtain ⟨rfl, hdg⟩ := hd.of (n := 2) rfl
  obtain ⟨q, hq⟩ := qc_ck_mem hd.aux
  intro p l e s m args below meth c0 g H locs ls C D S L
  exact lv_ldc2 C.1 C.2.1 C.2.2.2.2.1 (C.2.2.2.2.2.1 _ hq) hdg (k p l e s m args below meth c0 g H locs ls C D S L)
theorem qc_ldc2d {n : Nat} {x : UInt64} (hd : qc_d mi (pc, pc', .ldc2_w n, a, b, .double x)) (k : qc_X R mi QQ cu su w (pc', lv, .double x :: st, M)) : qc_X R mi QQ cu su w (pc, lv, st, M) := by
  obtain ⟨rfl, hdg⟩ := hd.of (n := 2) rfl
  obtain ⟨q, hq⟩ := qc_ck_mem hd.aux
  intro p l e s m args below meth c0 g H locs ls C D S L
  exact lv_ldc2d C.1 C.2.1 C.2.2.2.2.1 (C.2.2.2.2.2.1 _ hq) hdg (k p l e s m args below meth c0 g H locs ls C D S L)
theorem qc_iinc {i : Nat} {n : Int} {x y : Int32} (hd : qc_d mi (pc, pc', .iinc i n, a, b, .int y)) (hk : qc_lk i lv = some (.int x)) (hi : Nat.blt i mi.2.2.2.1 = true) (hl : qc_s1 i (.int (x + y)) lv = lv') (k : qc_X R mi QQ cu su w (pc', lv', st, M)) : qc_X R mi QQ cu su w (pc, lv, st, M) := by
  obtain ⟨rfl, hdg⟩ := hd.of (n := 2) rfl
  have ha : Value.int y = .int (Int32.ofInt n) := of_decide_eq_true hd.aux
  cases ha
  subst hl
  intro p l e s m args below meth c0 g H locs ls C D S L
  obtain ⟨j, hj⟩ := List.getElem?_of_mem (List.mem_map.mpr ⟨(i, Value.int x), qc_lk_mem hk, rfl⟩ : (i, Value.int x) ∈ lv.map (qc_cp g.2.2.1))
  exact lv_iinc C.1 C.2.1 hdg L hj rfl (Nat.le_of_ble_eq_true hi) (qc_s1_map g.2.2.1 i (.int _) lv) (fun ls' hl' => k p l e s m args below meth c0 g H locs ls' C D S hl')
theorem qc_istore {i : Nat} {x : Int32} (hd : qc_d mi (pc, pc', .istore i, a, b, v)) (hi : Nat.blt i mi.2.2.2.1 = true) (hl : qc_s1 i (.int x) lv = lv') (k : qc_X R mi QQ cu su w (pc', lv', st, M)) : qc_X R mi QQ cu su w (pc, lv, .int x :: st, M) := by
  obtain ⟨rfl, hdg⟩ := hd.of (n := 1) rfl
  subst hl
  intro p l e s m args below meth c0 g H locs ls C D S L
  exact lv_istore C.1 C.2.1 hdg L (Nat.le_of_ble_eq_true hi) (qc_s1_map g.2.2.1 i (.int x) lv) (fun ls' hl' => k p l e s m args below meth c0 g H locs ls' C D S hl')
theorem qc_istore_n {i : Fin 4} {x : Int32} (hd : qc_d mi (pc, pc', .istore_n i, a, b, v)) (hi : Nat.blt i mi.2.2.2.1 = true) (hl : qc_s1 i (.int x) lv = lv') (k : qc_X R mi QQ cu su w (pc', lv', st, M)) : qc_X R mi QQ cu su w (pc, lv, .int x :: st, M) := by
  obtain ⟨rfl, hdg⟩ := hd.of (n := 0) rfl
  subst hl
  intro p l e s m args below meth c0 g H locs ls C D S L
  exact lv_istore_n C.1 C.2.1 hdg rfl L (Nat.le_of_ble_eq_true hi) (qc_s1_map g.2.2.1 i (.int x) lv) (fun ls' hl' => k p l e s m args below meth c0 g H locs ls' C D S hl')
theorem qc_fstore {i : Nat} {x : UInt32} (hd : qc_d mi (pc, pc', .fstore i, a, b, v)) (hi : Nat.blt i mi.2.2.2.1 = true) (hl : qc_s1 i (.float x) lv = lv') (k : qc_X R mi QQ cu su w (pc', lv', st, M)) : qc_X R mi QQ cu su w (pc, lv, .float x :: st, M) := by
  obtain ⟨rfl, hdg⟩ := hd.of (n := 1) rfl
  subst hl
  intro p l e s m args below meth c0 g H locs ls C D S L
  exact lv_fstore C.1 C.2.1 hdg L (Nat.le_of_ble_eq_true hi) (qc_s1_map g.2.2.1 i (.float x) lv) (fun ls' hl' => k p l e s m args below meth c0 g H locs ls' C D S hl')
theorem qc_fstore_n {i : Fin 4} {x : UInt32} (hd : qc_d mi (pc, pc', .fstore_n i, a, b, v)) (hi : Nat.blt i mi.2.2.2.1 = true) (hl : qc_s1 i (.float x) lv = lv') (k : qc_X R mi QQ cu su w (pc', lv', st, M)) : qc_X R mi QQ cu su w (pc, lv, .float x :: st, M) := by
  obtain ⟨rfl, hdg⟩ := hd.of (n := 0) rfl
  subst hl
  intro p l e s m args below meth c0 g H locs ls C D S L
  exact lv_fstore_n C.1 C.2.1 hdg rfl L (Nat.le_of_ble_eq_true hi) (qc_s1_map g.2.2.1 i (.float x) lv) (fun ls' hl' => k p l e s m args below meth c0 g H locs ls' C D S hl')
theorem qc_astore {i : Nat} {x : Nat} (hd : qc_d mi (pc, pc', .astore i, a, b, v)) (hi : Nat.blt i mi.2.2.2.1 = true) (hl : qc_s1 i (.ref x) lv = lv') (k : qc_X R mi QQ cu su w (pc', lv', st, M)) : qc_X R mi QQ cu su w (pc, lv, .ref x :: st, M) := by
  obtain ⟨rfl, hdg⟩ := hd.of (n := 1) rfl
  subst hl
  intro p l e s m args below meth c0 g H locs ls C D S L
  exact lv_astore C.1 C.2.1 hdg L (Nat.le_of_ble_eq_true hi) (qc_s1_map g.2.2.1 i (.ref x) lv) (fun ls' hl' => k p l e s m args below meth c0 g H locs ls' C D S hl')
theorem qc_astore_n {i : Fin 4} {x : Nat} (hd : qc_d mi (pc, pc', .astore_n i, a, b, v)) (hi : Nat.blt i mi.2.2.2.1 = true) (hl : qc_s1 i (.ref x) lv = lv') (k : qc_X R mi QQ cu su w (pc', lv', st, M)) : qc_X R mi QQ cu su w (pc, lv, .ref x :: st, M) := by
  obtain ⟨rfl, hdg⟩ := hd.of (n := 0) rfl
  subst hl
  intro p l e s m args below meth c0 g H locs ls C D S L
  exact lv_astore_n C.1 C.2.1 hdg rfl L (Nat.le_of_ble_eq_true hi) (qc_s1_map g.2.2.1 i (.ref x) lv) (fun ls' hl' => k p l e s m args below meth c0 g H locs ls' C D S hl')
theorem qc_lstore {i : Nat} {x : Int64} (hd : qc_d mi (pc, pc', .lstore i, a, b, v)) (hi : Nat.blt (i + 1) mi.2.2.2.1 = true) (hl : qc_s2 i (.long x) lv = lv') (k : qc_X R mi QQ cu su w (pc', lv', st, M)) : qc_X R mi QQ cu su w (pc, lv, .long x :: st, M) := by
  obtain ⟨rfl, hdg⟩ := hd.of (n := 1) rfl
  subst hl
  intro p l e s m args below meth c0 g H locs ls C D S L
  exact lv_lstore C.1 C.2.1 hdg L (Nat.le_of_ble_eq_true hi) (qc_s2_map g.2.2.1 i (.long x) lv) (fun ls' hl' => k p l e s m args below meth c0 g H locs ls' C D S hl')
theorem qc_lstore_n {i : Fin 4} {x : Int64} (hd : qc_d mi (pc, pc', .lstore_n i, a, b, v)) (hi : Nat.blt (i + 1) mi.2.2.2.1 = true) (hl : qc_s2 i (.long x) lv = lv') (k : qc_X R mi QQ cu su w (pc', lv', st, M)) : qc_X R mi QQ cu su w (pc, lv, .long x :: st, M) := by
  obtain ⟨rfl, hdg⟩ := hd.of (n := 0) rfl
  subst hl
  intro p l e s m args below meth c0 g H locs ls C D S L
  exact lv_lstore_n C.1 C.2.1 hdg rfl L (Nat.le_of_ble_eq_true hi) (qc_s2_map g.2.2.1 i (.long x) lv) (fun ls' hl' => k p l e s m args below meth c0 g H locs ls' C D S hl')
theorem qc_dstore {i : Nat} {x : UInt64} (hd : qc_d mi (pc, pc', .dstore i, a, b, v)) (hi : Nat.blt (i + 1) mi.2.2.2.1 = true) (hl : qc_s2 i (.double x) lv = lv') (k : qc_X R mi QQ cu su w (pc', lv', st, M)) : qc_X R mi QQ cu su w (pc, lv, .double x :: st, M) := by
  obtain ⟨rfl, hdg⟩ := hd.of (n := 1) rfl
  subst hl
  intro p l e s m args below meth c0 g H locs ls C D S L
  exact lv_dstore C.1 C.2.1 hdg L (Nat.le_of_ble_eq_true hi) (qc_s2_map g.2.2.1 i (.double x) lv) (fun ls' hl' => k p l e s m args below meth c0 g H locs ls' C D S hl')
theorem qc_dstore_n {i : Fin 4} {x : UInt64} (hd : qc_d mi (pc, pc', .dstore_n i, a, b, v)) (hi : Nat.blt (i + 1) mi.2.2.2.1 = true) (hl : qc_s2 i (.double x) lv = lv') (k : qc_X R mi QQ cu su w (pc', lv', st, M)) : qc_X R mi QQ cu su w (pc, lv, .double x :: st, M) := by
  obtain ⟨rfl, hdg⟩ := hd.of (n := 0) rfl
  subst hl
  intro p l e s m args below meth c0 g H locs ls C D S L
  exact lv_dstore_n C.1 C.2.1 hdg rfl L (Nat.le_of_ble_eq_true hi) (qc_s2_map g.2.2.1 i (.double x) lv) (fun ls' hl' => k p l e s m args below meth c0 g H locs ls' C D S hl')
theorem qc_astoreN {i : Nat} (hd : qc_d mi (pc, pc', .astore i, a, b, v)) (hi : Nat.blt i mi.2.2.2.1 = true) (hl : qc_s1 i .null lv = lv') (k : qc_X R mi QQ cu su w (pc', lv', st, M)) : qc_X R mi QQ cu su w (pc, lv, .null :: st, M) := by
  obtain ⟨rfl, hdg⟩ := hd.of (n := 1) rfl
  subst hl
  intro p l e s m args below meth c0 g H locs ls C D S L
  exact lv_astoreN C.1 C.2.1 hdg L (Nat.le_of_ble_eq_true hi) (qc_s1_map g.2.2.1 i .null lv) (fun ls' hl' => k p l e s m args below meth c0 g H locs ls' C D S hl')
theorem qc_astore_nN {i : Fin 4} (hd : qc_d mi (pc, pc', .astore_n i, a, b, v)) (hi : Nat.blt i mi.2.2.2.1 = true) (hl : qc_s1 i .null lv = lv') (k : qc_X R mi QQ cu su w (pc', lv', st, M)) : qc_X R mi QQ cu su w (pc, lv, .null :: st, M) := by
  obtain ⟨rfl, hdg⟩ := hd.of (n := 0) rfl
  subst hl
  intro p l e s m args below meth c0 g H locs ls C D S L
  exact lv_astore_nN C.1 C.2.1 hdg rfl L (Nat.le_of_ble_eq_true hi) (qc_s1_map g.2.2.1 i .null lv) (fun ls' hl' => k p l e s m args below meth c0 g H locs ls' C D S hl')
theorem qc_if_eq {x : Int32} {off : Int} (hd : qc_d mi (pc, pc', .ifCond .eq off, a, pc, v)) (kt : x = 0 → qc_X R mi QQ cu su w (a, lv, st, M)) (kf : ¬ x = 0 → qc_X R mi QQ cu su w (pc', lv, st, M)) : qc_X R mi QQ cu su w (pc, lv, .int x :: st, M) := by
  obtain ⟨rfl, hdg⟩ := hd.of (n := 2) rfl
  have ha : (a : Int) = (pc : Int) + off := of_decide_eq_true hd.aux
  intro p l e s m args below meth c0 g H locs ls C D S L
  exact lv_if_eq C.1 C.2.1 hdg ha.symm (fun h => kt h p l e s m args below meth c0 g H locs ls C D S L) (fun h => kf h p l e s m args below meth c0 g H locs ls C D S L)
theorem qc_icmp_eq {x y : Int32} {off : Int} (hd : qc_d mi (pc, pc', .if_icmp .eq off, a, pc, v)) (kt : x = y → qc_X R mi QQ cu su w (a, lv, st, M)) (kf : ¬ x = y → qc_X R mi QQ cu su w (pc', lv, st, M)) : qc_X R mi QQ cu su w (pc, lv, .int y :: .int x :: st, M) := by
  obtain ⟨rfl, hdg⟩ := hd.of (n := 2) rfl
  have ha : (a : Int) = (pc : Int) + off := of_decide_eq_true hd.aux
  intro p l e s m args below meth c0 g H locs ls C D S L
  exact lv_icmp_eq C.1 C.2.1 hdg ha.symm (fun h => kt h p l e s m args below meth c0 g H locs ls C D S L) (fun h => kf h p l e s m args below meth c0 g H locs ls C D S L)
theorem qc_if_ne {x : Int32} {off : Int} (hd : qc_d mi (pc, pc', .ifCond .ne off, a, pc, v)) (kt : ¬ x = 0 → qc_X R mi QQ cu su w (a, lv, st, M)) (kf : x = 0 → qc_X R mi QQ cu su w (pc', lv, st, M)) : qc_X R mi QQ cu su w (pc, lv, .int x :: st, M) := by
  obtain ⟨rfl, hdg⟩ := hd.of (n := 2) rfl
  have ha : (a : Int) = (pc : Int) + off := of_decide_eq_true hd.aux
  intro p l e s m args below meth c0 g H locs ls C D S L
  exact lv_if_ne C.1 C.2.1 hdg ha.symm (fun h => kt h p l e s m args below meth c0 g H locs ls C D S L) (fun h => kf h p l e s m args below meth c0 g H locs ls C D S L)
theorem qc_icmp_ne {x y : Int32} {off : Int} (hd : qc_d mi (pc, pc', .if_icmp .ne off, a, pc, v)) (kt : ¬ x = y → qc_X R mi QQ cu su w (a, lv, st, M)) (kf : x = y → qc_X R mi QQ cu su w (pc', lv, st, M)) : qc_X R mi QQ cu su w (pc, lv, .int y :: .int x :: st, M) := by
  obtain ⟨rfl, hdg⟩ := hd.of (n := 2) rfl
  have ha : (a : Int) = (pc : Int) + off := of_decide_eq_true hd.aux
  intro p l e s m args below meth c0 g H locs ls C D S L
  exact lv_icmp_ne C.1 C.2.1 hdg ha.symm (fun h => kt h p l e s m args below meth c0 g H locs ls C D S L) (fun h => kf h p l e s m args below meth c0 g H locs ls C D S L)
theorem qc_if_lt {x : Int32} {off : Int} (hd : qc_d mi (pc, pc', .ifCond .lt off, a, pc, v)) (kt : x < 0 → qc_X R mi QQ cu su w (a, lv, st, M)) (kf : ¬ x < 0 → qc_X R mi QQ cu su w (pc', lv, st, M)) : qc_X R mi QQ cu su w (pc, lv, .int x :: st, M) := by
  obtain ⟨rfl, hdg⟩ := hd.of (n := 2) rfl
  have ha : (a : Int) = (pc : Int) + off := of_decide_eq_true hd.aux
  intro p l e s m args below meth c0 g H locs ls C D S L
  exact lv_if_lt C.1 C.2.1 hdg ha.symm (fun h => kt h p l e s m args below meth c0 g H locs ls C D S L) (fun h => kf h p l e s m args below meth c0 g H locs ls C D S L)
theorem qc_icmp_lt {x y : Int32} {off : Int} (hd : qc_d mi (pc, pc', .if_icmp .lt off, a, pc, v)) (kt : x < y → qc_X R mi QQ cu su w (a, lv, st, M)) (kf : ¬ x < y → qc_X R mi QQ cu su w (pc', lv, st, M)) : qc_X R mi QQ cu su w (pc, lv, .int y :: .int x :: st, M) := by
  obtain ⟨rfl, hdg⟩ := hd.of (n := 2) rfl
  have ha : (a : Int) = (pc : Int) + off := of_decide_eq_true hd.aux
  intro p l e s m args below meth c0 g H locs ls C D S L
  exact lv_icmp_lt C.1 C.2.1 hdg ha.symm (fun h => kt h p l e s m args below meth c0 g H locs ls C D S L) (fun h => kf h p l e s m args below meth c0 g H locs ls C D S L)
theorem qc_if_ge {x : Int32} {off : Int} (hd : qc_d mi (pc, pc', .ifCond .ge off, a, pc, v)) (kt : 0 ≤ x → qc_X R mi QQ cu su w (a, lv, st, M)) (kf : ¬ 0 ≤ x → qc_X R mi QQ cu su w (pc', lv, st, M)) : qc_X R mi QQ cu su w (pc, lv, .int x :: st, M) := by
  obtain ⟨rfl, hdg⟩ := hd.of (n := 2) rfl
  have ha : (a : Int) = (pc : Int) + off := of_decide_eq_true hd.aux
  intro p l e s m args below meth c0 g H locs ls C D S L
  exact lv_if_ge C.1 C.2.1 hdg ha.symm (fun h => kt h p l e s m args below meth c0 g H locs ls C D S L) (fun h => kf h p l e s m args below meth c0 g H locs ls C D S L)
theorem qc_icmp_ge {x y : Int32} {off : Int} (hd : qc_d mi (pc, pc', .if_icmp .ge off, a, pc, v)) (kt : y ≤ x → qc_X R mi QQ cu su w (a, lv, st, M)) (kf : ¬ y ≤ x → qc_X R mi QQ cu su w (pc', lv, st, M)) : qc_X R mi QQ cu su w (pc, lv, .int y :: .int x :: st, M) := by
  obtain ⟨rfl, hdg⟩ := hd.of (n := 2) rfl
  have ha : (a : Int) = (pc : Int) + off := of_decide_eq_true hd.aux
  intro p l e s m args below meth c0 g H locs ls C D S L
  exact lv_icmp_ge C.1 C.2.1 hdg ha.symm (fun h => kt h p l e s m args below meth c0 g H locs ls C D S L) (fun h => kf h p l e s m args below meth c0 g H locs ls C D S L)
theorem qc_if_gt {x : Int32} {off : Int} (hd : qc_d mi (pc, pc', .ifCond .gt off, a, pc, v)) (kt : 0 < x → qc_X R mi QQ cu su w (a, lv, st, M)) (kf : ¬ 0 < x → qc_X R mi QQ cu su w (pc', lv, st, M)) : qc_X R mi QQ cu su w (pc, lv, .int x :: st, M) := by
  obtain ⟨rfl, hdg⟩ := hd.of (n := 2) rfl
  have ha : (a : Int) = (pc : Int) + off := of_decide_eq_true hd.aux
  intro p l e s m args below meth c0 g H locs ls C D S L
  exact lv_if_gt C.1 C.2.1 hdg ha.symm (fun h => kt h p l e s m args below meth c0 g H locs ls C D S L) (fun h => kf h p l e s m args below meth c0 g H locs ls C D S L)
theorem qc_icmp_gt {x y : Int32} {off : Int} (hd : qc_d mi (pc, pc', .if_icmp .gt off, a, pc, v)) (kt : y < x → qc_X R mi QQ cu su w (a, lv, st, M)) (kf : ¬ y < x → qc_X R mi QQ cu su w (pc', lv, st, M)) : qc_X R mi QQ cu su w (pc, lv, .int y :: .int x :: st, M) := by
  obtain ⟨rfl, hdg⟩ := hd.of (n := 2) rfl
  have ha : (a : Int) = (pc : Int) + off := of_decide_eq_true hd.aux
  intro p l e s m args below meth c0 g H locs ls C D S L
  exact lv_icmp_gt C.1 C.2.1 hdg ha.symm (fun h => kt h p l e s m args below meth c0 g H locs ls C D S L) (fun h => kf h p l e s m args below meth c0 g H locs ls C D S L)
theorem qc_if_le {x : Int32} {off : Int} (hd : qc_d mi (pc, pc', .ifCond .le off, a, pc, v)) (kt : x ≤ 0 → qc_X R mi QQ cu su w (a, lv, st, M)) (kf : ¬ x ≤ 0 → qc_X R mi QQ cu su w (pc', lv, st, M)) : qc_X R mi QQ cu su w (pc, lv, .int x :: st, M) := by
  obtain ⟨rfl, hdg⟩ := hd.of (n := 2) rfl
  have ha : (a : Int) = (pc : Int) + off := of_decide_eq_true hd.aux
  intro p l e s m args below meth c0 g H locs ls C D S L
  exact lv_if_le C.1 C.2.1 hdg ha.symm (fun h => kt h p l e s m args below meth c0 g H locs ls C D S L) (fun h => kf h p l e s m args below meth c0 g H locs ls C D S L)
theorem qc_icmp_le {x y : Int32} {off : Int} (hd : qc_d mi (pc, pc', .if_icmp .le off, a, pc, v)) (kt : x ≤ y → qc_X R mi QQ cu su w (a, lv, st, M)) (kf : ¬ x ≤ y → qc_X R mi QQ cu su w (pc', lv, st, M)) : qc_X R mi QQ cu su w (pc, lv, .int y :: .int x :: st, M) := by
  obtain ⟨rfl, hdg⟩ := hd.of (n := 2) rfl
  have ha : (a : Int) = (pc : Int) + off := of_decide_eq_true hd.aux
  intro p l e s m args below meth c0 g H locs ls C D S L
  exact lv_icmp_le C.1 C.2.1 hdg ha.symm (fun h => kt h p l e s m args below meth c0 g H locs ls C D S L) (fun h => kf h p l e s m args below meth c0 g H locs ls C D S L)
theorem qc_goto {off : Int} (hd : qc_d mi (pc, pc', .goto off, a, pc, v)) (k : qc_X R mi QQ cu su w (a, lv, st, M)) : qc_X R mi QQ cu su w (pc, lv, st, M) := by
  obtain ⟨rfl, hdg⟩ := hd.of (n := 2) rfl
  have ha : (a : Int) = (pc : Int) + off := of_decide_eq_true hd.aux
  intro p l e s m args below meth c0 g H locs ls C D S L
  exact lv_goto C.1 C.2.1 hdg ha.symm (k p l e s m args below meth c0 g H locs ls C D S L)
theorem qc_ifnull {off : Int} {x : Nat} (hd : qc_d mi (pc, pc', .ifnull off, a, pc, v)) (k : qc_X R mi QQ cu su w (pc', lv, st, M)) : qc_X R mi QQ cu su w (pc, lv, .ref x :: st, M) := by
  obtain ⟨rfl, hdg⟩ := hd.of (n := 2) rfl
  intro p l e s m args below meth c0 g H locs ls C D S L
  exact lv_ifnull C.1 C.2.1 hdg (k p l e s m args below meth c0 g H locs ls C D S L)
theorem qc_ifnullN {off : Int} (hd : qc_d mi (pc, pc', .ifnull off, a, pc, v)) (k : qc_X R mi QQ cu su w (a, lv, st, M)) : qc_X R mi QQ cu su w (pc, lv, .null :: st, M) := by
  obtain ⟨rfl, hdg⟩ := hd.of (n := 2) rfl
  have ha : (a : Int) = (pc : Int) + off := of_decide_eq_true hd.aux
  intro p l e s m args below meth c0 g H locs ls C D S L
  exact lv_ifnullN C.1 C.2.1 hdg ha.symm (k p l e s m args below meth c0 g H locs ls C D S L)
theorem qc_ifnonnull {off : Int} {x : Nat} (hd : qc_d mi (pc, pc', .ifnonnull off, a, pc, v)) (k : qc_X R mi QQ cu su w (a, lv, st, M)) : qc_X R mi QQ cu su w (pc, lv, .ref x :: st, M) := by
  obtain ⟨rfl, hdg⟩ := hd.of (n := 2) rfl
  have ha : (a : Int) = (pc : Int) + off := of_decide_eq_true hd.aux
  intro p l e s m args below meth c0 g H locs ls C D S L
  exact lv_ifnonnull C.1 C.2.1 hdg ha.symm (k p l e s m args below meth c0 g H locs ls C D S L)
theorem qc_ifnonnullN {off : Int} (hd : qc_d mi (pc, pc', .ifnonnull off, a, pc, v)) (k : qc_X R mi QQ cu su w (pc', lv, st, M)) : qc_X R mi QQ cu su w (pc, lv, .null :: st, M) := by
  obtain ⟨rfl, hdg⟩ := hd.of (n := 2) rfl
  intro p l e s m args below meth c0 g H locs ls C D S L
  exact lv_ifnonnullN C.1 C.2.1 hdg (k p l e s m args below meth c0 g H locs ls C D S L)
def qc_vd (x : Nat) : Prop := x < 62 ∨ 256 ≤ x
theorem qc_inj {g : qcG} {w : qcW} {M : qcM} {s : State} {H : Heap} (D : qc_WD g w M s H) {x y : Nat} (hx : qc_vd x) (hy : qc_vd y) (h : g.2.2.1 x = g.2.2.1 y) : x = y := by
  obtain ⟨-, -, hf, -, -, -, hS, -⟩ := D
  have hm : ∀ i, i < 62 → g.2.2.1 i < g.2.2.2 := by
    intro i hi
    obtain ⟨cell, -, -, -, hA⟩ := (hS.1 i hi).2.1
    exact Nat.lt_of_not_le hA
  rcases hx with hx | hx <;> rcases hy with hy | hy
  · exact hS.2 x y hx hy h
  · have := hm x hx
    have := hf y hy
    omega
  · have := hm y hy
    have := hf x hx
    omega
  · have := hf x hx
    have := hf y hy
    omega
theorem qc_acmp_eq {x y : Nat} {off : Int} (hd : qc_d mi (pc, pc', .if_acmp .eq off, a, pc, v)) (hx : qc_vd x) (hy : qc_vd y) (kt : x = y → qc_X R mi QQ cu su w (a, lv, st, M)) (kf : ¬ x = y → qc_X R mi QQ cu su w (pc', lv, st, M)) : qc_X R mi QQ cu su w (pc, lv, .ref y :: .ref x :: st, M) := by
  obtain ⟨rfl, hdg⟩ := hd.of (n := 2) rfl
  have ha : (a : Int) = (pc : Int) + off := of_decide_eq_true hd.aux
  intro p l e s m args below meth c0 g H locs ls C D S L
  exact lv_acmp_eq (rx := some (g.2.2.1 x)) (ry := some (g.2.2.1 y)) C.1 C.2.1 hdg ha.symm (fun h => kt (qc_inj D.1 hx hy (Option.some.inj h)) p l e s m args below meth c0 g H locs ls C D S L) (fun h => kf (fun q => h (by rw [q])) p l e s m args below meth c0 g H locs ls C D S L)
theorem qc_acmp_ne {x y : Nat} {off : Int} (hd : qc_d mi (pc, pc', .if_acmp .ne off, a, pc, v)) (hx : qc_vd x) (hy : qc_vd y) (kt : ¬ x = y → qc_X R mi QQ cu su w (a, lv, st, M)) (kf : x = y → qc_X R mi QQ cu su w (pc', lv, st, M)) : qc_X R mi QQ cu su w (pc, lv, .ref y :: .ref x :: st, M) := by
  obtain ⟨rfl, hdg⟩ := hd.of (n := 2) rfl
  have ha : (a : Int) = (pc : Int) + off := of_decide_eq_true hd.aux
  intro p l e s m args below meth c0 g H locs ls C D S L
  exact lv_acmp_ne (rx := some (g.2.2.1 x)) (ry := some (g.2.2.1 y)) C.1 C.2.1 hdg ha.symm (fun h => kt (fun q => h (by rw [q])) p l e s m args below meth c0 g H locs ls C D S L) (fun h => kf (qc_inj D.1 hx hy (Option.some.inj h)) p l e s m args below meth c0 g H locs ls C D S L)
theorem qc_tabIn {d0 lo hi off : Int} {offs : Array Int} {x : Int32} {tgt : Nat} (hd : qc_d mi (pc, pc', .tableswitch d0 lo hi offs, a, b, v)) (j : Nat) (hx : x.toInt = lo + j) (hj : lo + j ≤ hi) (ho : offs[j]? = some off) (ht : (pc : Int) + off = (tgt : Int)) (k : qc_X R mi QQ cu su w (tgt, lv, st, M)) : qc_X R mi QQ cu su w (pc, lv, .int x :: st, M) := by
  have hdg : decode mi.2.2.1 pc = .ok (.tableswitch d0 lo hi offs, pc' - pc) := by
    unfold qc_d qc_ok at hd
    simp only [Bool.and_eq_true, decide_eq_true_eq] at hd
    exact hd.1.2
  intro p l e s m args below meth c0 g H locs ls C D S L
  exact lv_tableIn C.1 C.2.1 hdg (by omega) (by omega) (by rw [show (x.toInt - lo).toNat = j by omega]; exact ho) ht (k p l e s m args below meth c0 g H locs ls C D S L)
theorem qc_tabOut {d0 lo hi : Int} {offs : Array Int} {x : Int32} {tgt : Nat} (hd : qc_d mi (pc, pc', .tableswitch d0 lo hi offs, a, b, v)) (hx : x.toInt < lo ∨ hi < x.toInt) (ht : (pc : Int) + d0 = (tgt : Int)) (k : qc_X R mi QQ cu su w (tgt, lv, st, M)) : qc_X R mi QQ cu su w (pc, lv, .int x :: st, M) := by
  have hdg : decode mi.2.2.1 pc = .ok (.tableswitch d0 lo hi offs, pc' - pc) := by
    unfold qc_d qc_ok at hd
    simp only [Bool.and_eq_true, decide_eq_true_eq] at hd
    exact hd.1.2
  intro p l e s m args below meth c0 g H locs ls C D S L
  exact lv_tableOut C.1 C.2.1 hdg hx ht (k p l e s m args below meth c0 g H locs ls C D S L)
end QCF
section QCT
variable {R : Room} {mi : qcI} {cu su mc ms : Nat} {w : qcW} {pc pc' : Nat} {lv : List (Nat × Value)} {M : qcM} {a b : Nat} {v : Value} {Z : qcZ}
theorem qc_end {g : qcG} {s t : State} {H : Heap} {locs : List Loc} {args : Array Value} {r : Option Value} (hz : Z r w M) (D : qc_WD g w M s H) (S : va_S (qc_own g) s.heap H locs) (ht : t.heap = H) (hW : s.WarmedH t.vm) : qc_Q Z g args s (.returned (r.map (qc_cv g.2.2.1))) t :=
  ⟨⟨r, w, M, rfl, hz, by rw [ht]; exact D.moved hW.alike⟩, S.F ht⟩
theorem qc_iret {x : Int32} (hd : qc_d mi (pc, pc', .ireturn, a, b, v)) (hr : mi.2.2.2.2 = some .int) (hc : cu ≤ mc) (hs : su ≤ ms) (hz : Z (some (.int x)) w M) : qc_X R mi (qc_QM mc ms Z) cu su w (pc, lv, [.int x], M) := by
  obtain ⟨rfl, hdg⟩ := hd.of (n := 0) rfl
  intro p l e s m args below meth c0 g H locs ls C D S L
  exact W.widen hc hs (W.iret C.1 C.2.1 (C.2.2.1.trans hr) (fun t ht hW => qc_end hz D.1 S ht hW) S.2.2 hdg C.2.2.2.2.2.2.1)
theorem qc_zret {x : Int32} (hd : qc_d mi (pc, pc', .ireturn, a, b, v)) (hr : mi.2.2.2.2 = some .boolean) (hx : x = 0 ∨ x = 1) (hc : cu ≤ mc) (hs : su ≤ ms) (hz : Z (some (.int x)) w M) : qc_X R mi (qc_QM mc ms Z) cu su w (pc, lv, [.int x], M) := by
  obtain ⟨rfl, hdg⟩ := hd.of (n := 0) rfl
  intro p l e s m args below meth c0 g H locs ls C D S L
  exact W.widen hc hs (W.zret C.1 C.2.1 (C.2.2.1.trans hr) (by rcases hx with rfl | rfl <;> rfl) (fun t ht hW => qc_end hz D.1 S ht hW) S.2.2 hdg C.2.2.2.2.2.2.1)
theorem qc_lret {x : Int64} (hd : qc_d mi (pc, pc', .lreturn, a, b, v)) (hr : mi.2.2.2.2 = some .long) (hc : cu ≤ mc) (hs : su ≤ ms) (hz : Z (some (.long x)) w M) : qc_X R mi (qc_QM mc ms Z) cu su w (pc, lv, [.long x], M) := by
  obtain ⟨rfl, hdg⟩ := hd.of (n := 0) rfl
  intro p l e s m args below meth c0 g H locs ls C D S L
  exact W.widen hc hs (W.lret C.1 C.2.1 (C.2.2.1.trans hr) (fun t ht hW => qc_end hz D.1 S ht hW) S.2.2 hdg C.2.2.2.2.2.2.1)
theorem qc_dret {x : UInt64} (hd : qc_d mi (pc, pc', .dreturn, a, b, v)) (hr : mi.2.2.2.2 = some .double) (hc : cu ≤ mc) (hs : su ≤ ms) (hz : Z (some (.double x)) w M) : qc_X R mi (qc_QM mc ms Z) cu su w (pc, lv, [.double x], M) := by
  obtain ⟨rfl, hdg⟩ := hd.of (n := 0) rfl
  intro p l e s m args below meth c0 g H locs ls C D S L
  exact W.widen hc hs (W.dret C.1 C.2.1 (C.2.2.1.trans hr) (fun t ht hW => qc_end hz D.1 S ht hW) S.2.2 hdg C.2.2.2.2.2.2.1)
theorem qc_vret (hd : qc_d mi (pc, pc', .return_, a, b, v)) (hr : mi.2.2.2.2 = none) (hc : cu ≤ mc) (hs : su ≤ ms) (hz : Z none w M) : qc_X R mi (qc_QM mc ms Z) cu su w (pc, lv, [], M) := by
  obtain ⟨rfl, hdg⟩ := hd.of (n := 0) rfl
  intro p l e s m args below meth c0 g H locs ls C D S L
  exact W.widen hc hs (W.vret C.1 C.2.1 (C.2.2.1.trans hr) (fun t ht hW => qc_end hz D.1 S ht hW) S.2.2 hdg C.2.2.2.2.2.2.1)
theorem qc_aret {x : Value} {rt : FieldType} (hd : qc_d mi (pc, pc', .areturn, a, b, v)) (hr : mi.2.2.2.2 = some rt) (hrt : (∃ n, rt = .object n) ∨ ∃ t, rt = .array t) (hx : x = .null ∨ ∃ a, x = .ref a) (hc : cu ≤ mc) (hs : su ≤ ms) (hz : Z (some x) w M) : qc_X R mi (qc_QM mc ms Z) cu su w (pc, lv, [x], M) := by
  obtain ⟨rfl, hdg⟩ := hd.of (n := 0) rfl
  intro p l e s m args below meth c0 g H locs ls C D S L
  exact W.widen hc hs (W.aret C.1 C.2.1 (C.2.2.1.trans hr) hrt (by rcases hx with rfl | ⟨a, rfl⟩; exact Or.inl rfl; exact Or.inr ⟨_, rfl⟩) (fun t ht hW => qc_end hz D.1 S ht hW) S.2.2 hdg C.2.2.2.2.2.2.1)
end QCT
