theorem qs_eqR {args : Array Value} {s : State} {t u : Term} {a : Nat} (h : (Cond.eq t u).before args s = true) (hu : u.eval args s none [] s = some (.ref a)) : t.eval args s none [] s = some (.ref a) := by
  cases hv : t.eval args s none [] s with
  | none => simp [Cond.before, Cond.holds, Cond.value, hv] at h
  | some w =>
    simp only [Cond.before, Cond.holds, Cond.value, hv, hu] at h
    cases w <;> simp_all
theorem qs_ord : (List.range 62).all (fun i => (List.range 62).all (fun j => Nat.beq i j || !decide (qc_mk_ord.getD i 0 = qc_mk_ord.getD j 0))) = true := by decide +kernel
theorem qs_txt : (List.range 58).all (fun i => (List.range 58).all (fun j => Nat.beq i j || !Nat.beq (qc_sxLen.getD i 0) (qc_sxLen.getD j 0) || (List.range (qc_sxLen.getD i 0)).any (fun k => !decide ((qc_sxB.getD i []).getD k 0 = (qc_sxB.getD j []).getD k 0)))) = true := by decide +kernel
/-- one field of one object holds one value -/
theorem qs_OF1 {o n d : String} {v v2 : Value} {t : Nat} {A : Nat → Prop} {U : State} {H : Heap} (h : va_OF o n d v t A U H) (h2 : va_OF o n d v2 t A U H) : v = v2 := by
  obtain ⟨cf, k, i, f, cell, a1, a2, a3, a4, a5, a6⟩ := h
  obtain ⟨cf', k', i', f', cell', b1, b2, b3, b4, b5, b6⟩ := h2
  rw [a1] at b1
  cases b1
  rw [a3] at b3
  cases b3
  rw [a5] at b5
  exact Option.some.inj b5
theorem qs_marks {args : Array Value} {s : State} (hts : ∀ w ∈ lw_tbl, w.before args s = true) (hg : ∀ c ∈ qs_nl, c.before args s = true) :
    ∃ ad : Nat → Nat, va_En "QueryClasses$Mark" "LQueryClasses$Mark;" qc_mkN qs_F ad (fun q => s.heap.size ≤ q) s s.heap ∧ ∀ i, i < 62 → (qs_mk i).eval args s none [] s = some (.ref (ad i)) := by
  have hA : ∀ a : Nat, a < s.heap.size → ¬ (fun q => s.heap.size ≤ q) a := fun a h q => by have q : s.heap.size ≤ a := q; omega
  have q7 := qs_7
  simp only [Bool.and_eq_true, decide_eq_true_eq] at q7
  have h0 : ∀ i : Nat, ∃ t : Nat, i < 62 → (qs_mk i).eval args s none [] s = some (.ref t) ∧ va_O "QueryClasses$Mark" t (fun q => s.heap.size ≤ q) s s.heap := by
    intro i
    by_cases hi : i < 62
    · obtain ⟨a, c, cell, k, q1, q2, q3, q4, q5, q6, -⟩ := Cond.exactly_spec (hg _ (of_decide_eq_true (qc_all qs_1 hi)))
      exact ⟨a, fun _ => ⟨q1, cell, q3, q5, by rw [q6]; exact q2, hA a (Array.getElem?_eq_some_iff.mp q3).1⟩⟩
    · exact ⟨0, fun h => absurd h hi⟩
  obtain ⟨ad, had⟩ := Classical.axiomOfChoice h0
  have hF : ∀ i, i < 62 → ∀ q ∈ qs_F, va_OF q.1 q.2.1 q.2.2.1 (.int (q.2.2.2.getD i 0)) (ad i) (fun q => s.heap.size ≤ q) s s.heap := by
    intro i hi q hq
    have h1 := List.all_eq_true.mp qs_2 q hq
    exact vk_OFof (had i hi).1 (va_eqt (hg _ (of_decide_eq_true (qc_all h1 hi)))) hA
  refine ⟨ad, ⟨fun i hi => ?_, fun i j hi hj e => ?_⟩, fun i hi => (had i hi).1⟩
  · have hi : i < 62 := hi
    exact ⟨va_Zref (hts _ (of_decide_eq_true (qc_all q7.1.1.1.1 hi))) (hts _ q7.1.2) (had i hi).1 hA, (had i hi).2, hF i hi⟩
  · have hi : i < 62 := hi
    have hj : j < 62 := hj
    have f1 := hF i hi ("java/lang/Enum", "ordinal", "I", qc_mk_ord) List.mem_cons_self
    have f2 := hF j hj ("java/lang/Enum", "ordinal", "I", qc_mk_ord) List.mem_cons_self
    rw [e] at f1
    have h1 := qs_OF1 f1 f2
    have h2 := qc_all (qc_all qs_ord hi) hj
    simp only [Bool.or_eq_true, Bool.not_eq_true', decide_eq_false_iff_not] at h2
    rcases h2 with h2 | h2
    · exact Nat.eq_of_beq_eq_true h2
    · exact absurd (by injection h1) h2
theorem qs_texts {args : Array Value} {s : State} (hg : ∀ c ∈ qs_nl, c.before args s = true) :
    ∃ adK adV : Nat → Nat, vk_S 58 qc_sxLen qc_sxB adK adV (fun q => s.heap.size ≤ q) s s.heap ∧ ∀ i, i < 58 → (qs_st i).eval args s none [] s = some (.ref (adK i)) := by
  have hA : ∀ a : Nat, a < s.heap.size → ¬ (fun q => s.heap.size ≤ q) a := fun a h q => by have q : s.heap.size ≤ a := q; omega
  have h0 : ∀ i : Nat, ∃ q : Nat × Nat, i < 58 → (qs_st i).eval args s none [] s = some (.ref q.1) ∧ va_O "java/lang/String" q.1 (fun q => s.heap.size ≤ q) s s.heap ∧ va_OF "java/lang/String" "coder" "B" (.int 0) q.1 (fun q => s.heap.size ≤ q) s s.heap ∧ va_OF "java/lang/String" "value" "[B" (.ref q.2) q.1 (fun q => s.heap.size ≤ q) s s.heap ∧ va_T .byte q.2 (qc_sxLen.getD i 0) (fun j => .int ((qc_sxB.getD i []).getD j 0)) (fun q => s.heap.size ≤ q) s s.heap := by
    intro i
    by_cases hi : i < 58
    · have h4 := qc_all qs_4 hi
      simp only [Bool.and_eq_true, decide_eq_true_eq] at h4
      obtain ⟨⟨⟨⟨e1, e2⟩, e3⟩, e4⟩, e5⟩ := h4
      have e5 : qc_sxLen.getD i 0 < 100 := Nat.le_of_ble_eq_true e5
      obtain ⟨a, c, cA, kA, q1, q2, q3, q4, q5, q6, -⟩ := Cond.exactly_spec (args := args) (first := s) (o := none) (s := s) (idx := []) (t := qs_st i) (cls := "java/lang/String") (hg _ e1)
      obtain ⟨t, ht, hT⟩ := va_Tof (tm := qs_val i) (ty := .byte) (N := qc_sxLen.getD i 0) (f := fun j => .int ((qc_sxB.getD i []).getD j 0)) (A := fun q => s.heap.size ≤ q) (by omega) (hg _ e3) (va_eqt (hg _ e4)) (fun j hj => va_eqt (hg _ (of_decide_eq_true (qc_all (qc_all qs_5 hi) hj)))) hA
      exact ⟨(a, t), fun _ => ⟨q1, ⟨cA, q3, q5, by rw [q6]; exact q2, hA a (Array.getElem?_eq_some_iff.mp q3).1⟩, vk_OFof q1 (va_eqt (hg _ e2)) hA, vk_OFof q1 ht hA, hT⟩⟩
    · exact ⟨(0, 0), fun h => absurd h hi⟩
  obtain ⟨ad, had⟩ := Classical.axiomOfChoice h0
  refine ⟨fun i => (ad i).1, fun i => (ad i).2, ⟨fun i hi => (had i hi).2, fun i j hi hj e => ?_⟩, fun i hi => (had i hi).1⟩
  have e : (ad i).1 = (ad j).1 := e
  obtain ⟨-, -, -, v1, t1⟩ := had i hi
  obtain ⟨-, -, -, v2, t2⟩ := had j hj
  rw [e] at v1
  have e2 := qs_OF1 v1 v2
  have e3 : (ad i).2 = (ad j).2 := by injection e2
  rw [e3] at t1
  obtain ⟨c1, a1, a2, a3, a4, a5, a6, a7⟩ := t1
  obtain ⟨c2, b1, b2, b3, b4, b5, b6, b7⟩ := t2
  rw [a1] at b1
  cases b1
  have l1 := qc_all qs_4 hi
  have l2 := qc_all qs_4 hj
  simp only [Bool.and_eq_true] at l1 l2
  have l1 : qc_sxLen.getD i 0 < 100 := Nat.le_of_ble_eq_true l1.2
  have l2 : qc_sxLen.getD j 0 < 100 := Nat.le_of_ble_eq_true l2.2
  have e4 : qc_sxLen.getD i 0 = qc_sxLen.getD j 0 := (nI_eq (by omega) (by omega)).mp (show nI (qc_sxLen.getD i 0) = nI (qc_sxLen.getD j 0) from a5.symm.trans b5)
  have h2 := qc_all (qc_all qs_txt hi) hj
  simp only [Bool.or_eq_true, Bool.not_eq_true'] at h2
  rcases h2 with (h2 | h2) | h2
  · exact Nat.eq_of_beq_eq_true h2
  · rw [e4] at h2
    rw [Nat.beq_refl] at h2
    cases h2
  · obtain ⟨k, hk, h3⟩ := List.any_eq_true.mp h2
    have hk := List.mem_range.mp hk
    simp only [Bool.not_eq_true', decide_eq_false_iff_not] at h3
    have e5 := a6 k hk
    rw [b6 k (by omega)] at e5
    have e6 := Option.some.inj e5
    exact absurd (by injection e6 with e7; exact e7.symm) h3
theorem qs_arr {args : Array Value} {s : State} {ty : FieldType} (h : (Cond.arrayClass ty).before args s = true) : ∃ cA : ClassId, ArrOfT s cA ty ∧ s.vm.findClass ("[" ++ ty.toString) = some cA := by
  obtain ⟨c, k, comp, h1, h2, h3⟩ := Cond.arrayClass_spec h
  exact ⟨c, fun n z => ⟨fun k h => (by cases h), k, h2, comp, h3⟩, h1⟩
theorem qs_arrO {args : Array Value} {s : State} {C : String} (h : (Cond.arrayOver (.object C)).before args s = true) : ∃ cA : ClassId, ArrOfT s cA (.object C) ∧ va_RA s cA (.object C) := by
  obtain ⟨comp, c, k, h1, -, h3, h4, h5⟩ := Cond.arrayOver_spec h
  exact ⟨c, fun n z => ⟨fun k h => (by cases h), k, h3, comp, h4⟩, k, comp, h3, h4, h1, h5⟩
set_option maxRecDepth 100000 in
theorem qs_8 : ((List.range 11).all (fun ci => decide (Cond.instantiable (qc_clT ci).1 (qc_nf ci) ∈ lw_tbl)) && decide (Cond.arrayClass .int ∈ lw_tbl) && decide (Cond.arrayClass .long ∈ lw_tbl) && decide (Cond.arrayClass .double ∈ lw_tbl) && decide (Cond.arrayOver (.object "QueryClasses$Code") ∈ lw_tbl) && decide (Cond.arrayOver (.object "QueryClasses$Query") ∈ lw_tbl)) = true := by decide +kernel
/-- the world at the law's entry: no own cell yet -/
theorem qs_world {args : Array Value} {s : State} (b : Nat) (hts : ∀ w ∈ lw_tbl, w.before args s = true) (hg : ∀ c ∈ qs_nl, c.before args s = true) (M : qcM) (kd ln : Nat → Nat) : ∃ g : qcG, qc_WD g (256, kd, ln) M s s.heap ∧ g.2.2.1 254 = b ∧ g.2.2.2 = s.heap.size := by
  obtain ⟨adm, hEn, hme⟩ := qs_marks hts hg
  obtain ⟨adK, adV, hSt, hse⟩ := qs_texts hg
  have hA : ∀ a : Nat, a < s.heap.size → ¬ (fun q => s.heap.size ≤ q) a := fun a h q => by have q : s.heap.size ≤ a := q; omega
  have q6 := qs_6
  have q7 := qs_7
  have q8 := qs_8
  simp only [Bool.and_eq_true, decide_eq_true_eq] at q6 q7 q8
  obtain ⟨tA, hta, hTA⟩ := va_Tof (tm := qs_all) (ty := .object "QueryClasses$Mark") (N := 62) (f := fun j => .ref (adm j)) (A := fun q => s.heap.size ≤ q) (by decide) (hg _ q6.1.1.1) (va_eqt (hg _ q6.1.1.2)) (fun j hj => qs_eqR (hg _ (of_decide_eq_true (qc_all q6.1.2 hj))) (hme j hj)) hA
  have hZA : va_Z "QueryClasses$Mark" "ALL" "[LQueryClasses$Mark;" (.ref tA) (fun q => s.heap.size ≤ q) s s.heap := va_Zref (hts _ q7.1.1.1.2) (hts _ q7.1.2) hta hA
  have hZC : va_Z "java/lang/String" "COMPACT_STRINGS" "Z" (.int 1) (fun q => s.heap.size ≤ q) s s.heap := va_Zof (hts _ q7.1.1.2) (hts _ q7.2) (va_eqt (hg _ q6.2)) hA
  obtain ⟨tF, hZF⟩ : ∃ tF : Nat, va_Z "jdk/internal/util/Preconditions" "SIOOBE_FORMATTER" "Ljava/util/function/BiFunction;" .null (fun q => s.heap.size ≤ q) s s.heap ∨ va_Z "jdk/internal/util/Preconditions" "SIOOBE_FORMATTER" "Ljava/util/function/BiFunction;" (.ref tF) (fun q => s.heap.size ≤ q) s s.heap := by
    rcases va_Zqof (hts _ qs_f1) (hts _ qs_f2) (hg _ qs_f3) hA with h | ⟨t, h⟩
    · exact ⟨0, Or.inl h⟩
    · exact ⟨t, Or.inr h⟩
  have hcls : ∀ ci : Nat, ∃ q : ClassId × (Nat → Nat), ci < 11 → u_Kn s (qc_clT ci).1 (qc_clT ci).2.1 (qc_nf ci) q.1 q.2 := by
    intro ci
    by_cases hi : ci < 11
    · obtain ⟨cC, iS, h⟩ := u_known (C := (qc_clT ci).1) (T := (qc_clT ci).2.1) (N := qc_nf ci) (n := qc_nf ci) hts (fun w hw => (List.mem_filter.mp (qc_c4 hi w hw)).1) (hts _ (of_decide_eq_true (qc_all q8.1.1.1.1.1 hi)))
      exact ⟨(cC, iS), fun _ => h⟩
    · exact ⟨(0, fun _ => 0), fun h => absurd h hi⟩
  obtain ⟨dD, hdD⟩ := Classical.axiomOfChoice hcls
  obtain ⟨a0, h00, h01⟩ := qs_arr (hts _ q8.1.1.1.1.2)
  obtain ⟨a1, h10, h11⟩ := qs_arr (hts _ q8.1.1.1.2)
  obtain ⟨a2, h20, h21⟩ := qs_arr (hts _ q8.1.1.2)
  obtain ⟨a3, h30, h31⟩ := qs_arrO (hts _ q8.1.2)
  obtain ⟨a4, h40, h41⟩ := qs_arrO (hts _ q8.2)
  let fi : Nat → Nat := fun a => if a < 62 then adm a else if a = 62 then tA else if a = 63 then tF else if a < 122 then adK (a - 64) else if a < 128 then 0 else if a < 186 then adV (a - 128) else if a = 254 then b else s.heap.size + (a - 256)
  let g : qcG := ((fun k => (dD k).1, fun k => (dD k).2), fun t => [a0, a1, a2, a3, a4].getD t a0, fi, s.heap.size)
  have f1 : ∀ i, i < 62 → fi i = adm i := fun i hi => by show (if i < 62 then adm i else _) = _; rw [if_pos hi]
  have f2 : fi 62 = tA := rfl
  have f3 : ∀ i, i < 58 → fi (64 + i) = adK i := fun i hi => by
    show (if 64 + i < 62 then _ else if 64 + i = 62 then _ else if 64 + i = 63 then _ else if 64 + i < 122 then adK (64 + i - 64) else _) = _
    rw [if_neg (by omega), if_neg (by omega), if_neg (by omega), if_pos (by omega), show 64 + i - 64 = i by omega]
  have f4 : ∀ i, i < 58 → fi (128 + i) = adV i := fun i hi => by
    show (if 128 + i < 62 then _ else if 128 + i = 62 then _ else if 128 + i = 63 then _ else if 128 + i < 122 then _ else if 128 + i < 128 then _ else if 128 + i < 186 then adV (128 + i - 128) else _) = _
    rw [if_neg (by omega), if_neg (by omega), if_neg (by omega), if_neg (by omega), if_neg (by omega), if_pos (by omega), show 128 + i - 128 = i by omega]
  have f5 : ∀ a, 256 ≤ a → fi a = s.heap.size + (a - 256) := fun a ha => by
    show (if a < 62 then _ else if a = 62 then _ else if a = 63 then _ else if a < 122 then _ else if a < 128 then _ else if a < 186 then _ else if a = 254 then _ else _) = _
    rw [if_neg (by omega), if_neg (by omega), if_neg (by omega), if_neg (by omega), if_neg (by omega), if_neg (by omega), if_neg (by omega)]
  refine ⟨g, ⟨Nat.le_refl 256, rfl, f5, ?_, ⟨?_, ?_⟩, ?_, ?_⟩, rfl, rfl⟩
  · intro k q hk
    obtain ⟨h1, -⟩ := qc_wl_at g _ _ hk
    have h1 : k < 256 - 256 := h1
    omega
  · intro c q hq
    have hc : c < 11 := (List.getElem?_eq_some_iff.mp hq).1
    have hcl : qcCl[c]? = some ((qc_clT c).1, (qc_clT c).2.1, qc_nf c) := by rw [(qc_cl1 hc).1, ← (qc_cl1 hc).2]
    rw [hcl] at hq
    cases hq
    exact hdD c hc
  · intro k q hk
    have hk5 : k < 5 := (List.getElem?_eq_some_iff.mp hk).1
    rcases (show k = 0 ∨ k = 1 ∨ k = 2 ∨ k = 3 ∨ k = 4 by omega) with rfl | rfl | rfl | rfl | rfl
    · cases hk; exact ⟨h00, h01⟩
    · cases hk; exact ⟨h10, h11⟩
    · cases hk; exact ⟨h20, h21⟩
    · cases hk; exact ⟨h30, h31⟩
    · cases hk; exact ⟨h40, h41⟩
  · intro a h1 h2 h3
    have h1 : a < 256 := h1
    omega
  · have hEn' : va_En "QueryClasses$Mark" "LQueryClasses$Mark;" qc_mkN qs_F fi (fun q => s.heap.size ≤ q) s s.heap := by
      refine ⟨fun i hi => ?_, fun i j hi hj e => ?_⟩
      · have hi : i < 62 := hi
        rw [f1 i hi]
        exact hEn.1 i hi
      · have hi : i < 62 := hi
        have hj : j < 62 := hj
        rw [f1 i hi, f1 j hj] at e
        exact hEn.2 i j hi hj e
    have hSt' : vk_S 58 qc_sxLen qc_sxB (fun i => fi (64 + i)) (fun i => fi (128 + i)) (fun q => s.heap.size ≤ q) s s.heap := by
      refine ⟨fun i hi => ?_, fun i j hi hj e => ?_⟩
      · show va_O _ (fi (64 + i)) _ _ _ ∧ va_OF _ _ _ _ (fi (64 + i)) _ _ _ ∧ va_OF _ _ _ (.ref (fi (128 + i))) (fi (64 + i)) _ _ _ ∧ va_T _ (fi (128 + i)) _ _ _ _ _
        rw [f3 i hi, f4 i hi]
        exact hSt.1 i hi
      · have e : fi (64 + i) = fi (64 + j) := e
        rw [f3 i hi, f3 j hj] at e
        exact hSt.2 i j hi hj e
    refine ⟨hEn', fun i hi => ?_, hZA, ?_, hSt', hZC, hZF⟩
    · have h3 := qc_all qs_3 hi
      simp only [Bool.and_eq_true, decide_eq_true_eq] at h3
      have h4 : qc_mk_text.getD i 0 < 58 := Nat.le_of_ble_eq_true h3.2
      show va_OF _ _ _ (.ref (fi (64 + qc_mk_text.getD i 0))) (fi i) _ _ _
      rw [f3 _ h4, f1 i hi]
      exact vk_OFof (hme i hi) (qs_eqR (hg _ h3.1) (hse _ h4)) hA
    · obtain ⟨cell, t1, t2, t3, t4, t5, t6, t7⟩ := hTA
      exact ⟨cell, t1, t2, t3, t4, t5, fun j hj => by show _ = some (Value.ref (fi j)); rw [f1 j hj]; exact t6 j hj, t7⟩
