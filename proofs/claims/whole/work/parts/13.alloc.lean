/-! making objects and rows; final fields in constructors -/
def qc_z {α : Type} (f : Nat → Nat → α) (a : Nat) (x : α) : Nat → Nat → α := fun b j => if b = a then x else f b j
theorem qc_z_off {α : Type} (f : Nat → Nat → α) {a b : Nat} (x : α) (h : b ≠ a) : qc_z f a x b = f b := by funext j; simp [qc_z, h]
theorem qc_z_on {α : Type} (f : Nat → Nat → α) (a : Nat) (x : α) : qc_z f a x a = fun _ => x := by funext j; simp [qc_z]
def qc_wn (w : qcW) (kd ln : Nat) : qcW := (w.1 + 1, va_up w.2.1 w.1 kd, va_up w.2.2 w.1 ln)
theorem qc_WD.new {g : qcG} {w : qcW} {M M' : qcM} {s : State} {H H1 : Heap} {kd ln : Nat} {locs : List Loc} (D : qc_WD g w M s H ∧ g.2.2.2 ≤ s.heap.size) (hz : H1.size = H.size + 1) (ho : ∀ q : Nat, q < H.size → H1[q]? = H[q]?) (hS : va_S (qc_own g) s.heap H locs)
    (hc : va_at g.1 qcCl (H.size, qc_cell g kd ln M' w.1) H1) (hM : ∀ kd ln b, b ≠ w.1 → qc_cell g kd ln M' b = qc_cell g kd ln M b) (hf : w.1 < qcNF → kd = qc_kd w.1 ∧ ln = qc_ln w.1) :
    (qc_WD g (qc_wn w kd ln) M' s H1 ∧ g.2.2.2 ≤ s.heap.size) ∧ va_S (qc_own g) s.heap H1 locs ∧ g.2.2.1 w.1 = H.size := by
  obtain ⟨⟨d1, d2, d3, d4, d5, d6, d7⟩, d8⟩ := D
  have hS1 : va_S (qc_own g) s.heap H1 locs := ⟨Nat.le_trans hS.1 (by omega), fun q h1 h2 => by rw [ho q (Nat.lt_of_lt_of_le h1 hS.1)]; exact hS.2.1 q h1 h2, hS.2.2⟩
  have ha : g.2.2.1 w.1 = H.size := by rw [d3 w.1 d1]; omega
  refine ⟨⟨⟨by show 256 ≤ w.1 + 1; omega, by show H1.size + 256 = g.2.2.2 + (w.1 + 1); omega, d3, ?_, d5, ?_, d7.both d8 hS hS1⟩, d8⟩, hS1, ha⟩
  · intro k q hk
    obtain ⟨h1, rfl⟩ := qc_wl_at g _ _ hk
    have h1 : k < w.1 + 1 - 256 := h1
    by_cases e : 256 + k = w.1
    · have e2 : g.2.2.2 + k = H.size := by omega
      show va_at g.1 qcCl (g.2.2.2 + k, qc_cell g (va_up w.2.1 w.1 kd (256 + k)) (va_up w.2.2 w.1 ln (256 + k)) M' (256 + k)) H1
      rw [e, e2]
      simp only [va_up, if_true]
      exact hc
    · show va_at g.1 qcCl (g.2.2.2 + k, qc_cell g (va_up w.2.1 w.1 kd (256 + k)) (va_up w.2.2 w.1 ln (256 + k)) M' (256 + k)) H1
      simp only [va_up, if_neg e]
      rw [hM _ _ _ e]
      have h2 := d4 k (g.2.2.2 + k, qc_cell g (w.2.1 (256 + k)) (w.2.2 (256 + k)) M (256 + k)) (by
        have h3 := qc_wl_get g w M (a := 256 + k) (by omega) (by omega)
        rw [show 256 + k - 256 = k by omega] at h3
        exact h3)
      exact h2.kept (ho _ (by show g.2.2.2 + k < H.size; omega))
  · intro a h1 h2 h3
    have h1 : a < w.1 + 1 := h1
    by_cases e : a = w.1
    · subst e
      have h4 := hf h3
      show va_up w.2.1 w.1 kd w.1 = _ ∧ va_up w.2.2 w.1 ln w.1 = _
      simp only [va_up, if_true]
      exact h4
    · show va_up w.2.1 w.1 kd a = _ ∧ va_up w.2.2 w.1 ln a = _
      simp only [va_up, if_neg e]
      exact d6 a (by omega) h2 h3
set_option maxRecDepth 20000 in
theorem qc_flL_n : qc_flL.all (fun q => !(q.2.2.2.2.1 && decide ((qc_clT q.2.2.1).1 = qc_nm q.1))) = true := by decide +kernel
theorem qc_fl_own {o n ci k : Nat} (h : qc_flL.any (fun q => Nat.beq q.1 o && Nat.beq q.2.1 n && Nat.beq q.2.2.1 ci && Nat.beq q.2.2.2.1 k) = true) (hi : (qc_clT ci).1 = qc_nm o) {s : State} {args : Array Value} (h1 : ∀ w ∈ qc_wg, w.before args s = true) : (Cond.fieldLink (qc_nm o) n (qc_clT ci).1 ((qc_clT ci).2.1 k).2.1 ((qc_clT ci).2.1 k).2.2.1).before args s = true := by
  obtain ⟨nest, p, hm⟩ := qc_fl_mem h
  have e1 := List.all_eq_true.mp qc_flL_ok _ hm
  have e2 := List.all_eq_true.mp qc_flL_k _ hm
  have e3 := List.all_eq_true.mp qc_flL_n _ hm
  simp only [Bool.and_eq_true, Bool.or_eq_true, decide_eq_true_eq] at e1 e2
  obtain ⟨⟨e4, -⟩, e5⟩ := e2
  have h3 : ci < 11 := Nat.le_of_ble_eq_true e4
  cases nest with
  | true => simp [hi] at e3
  | false =>
    rcases e5 with e5 | e5
    · cases e5
    · have hw : qc_word (o, n, ci, k, false, p) = Cond.fieldLink (qc_nm o) n (qc_clT ci).1 ((qc_clT ci).2.1 k).2.1 ((qc_clT ci).2.1 k).2.2.1 := by
        unfold qc_word
        rw [(qc_cl1 h3).1]
        rfl
      rw [hw] at e1 e5
      exact h1 _ (List.mem_filter.mpr ⟨List.mem_of_getElem? e1, e5⟩)
def qc_nw3 (o idx ci p1 p2 p3 : Nat) : Bool := Nat.blt ci 11 && qc_pw p1 (.classLink (qc_nm o) idx (qc_clT ci).1) && qc_pw p2 (.instantiable (qc_clT ci).1 (qc_nf ci)) && qc_pw p3 (.initialized (qc_clT ci).1)
section QCN
variable {R0 : Room} {mi : qcI} {QQ : qcQ} {cu su : Nat} {w : qcW} {pc pc' : Nat} {lv : List (Nat × Value)} {st : List Value} {M M' : qcM} {a a0 b0 : Nat} {v : Value} {I : Nat → Nat → Int32} {L : Nat → Nat → Int64} {D : Nat → Nat → UInt64} {R : Nat → Nat → Nat} {NL : Nat}
theorem qc_new (ci : Nat) {idx p1 p2 p3 : Nat} (hd : qc_d mi (pc, pc', .new idx, a0, b0, v)) (hw : qc_nw3 mi.1 idx ci p1 p2 p3 = true) (hf : w.1 < qcNF → ci = qc_kd w.1 ∧ 0 = qc_ln w.1) (hc : cu + 1 ≤ R0.cells) (hs : su + qc_nf ci ≤ R0.slots)
    (kk : qc_X R0 mi QQ (cu + 1) (su + qc_nf ci) (qc_wn w ci 0) (pc', lv, .ref w.1 :: st, qc_z I w.1 0, qc_z L w.1 0, qc_z D w.1 0, qc_z R w.1 255)) : qc_X R0 mi QQ cu su w (pc, lv, st, I, L, D, R) := by
  obtain ⟨rfl, hdg⟩ := hd.of (n := 2) rfl
  unfold qc_nw3 at hw
  simp only [Bool.and_eq_true] at hw
  obtain ⟨⟨⟨h0, h1⟩, h2⟩, h3⟩ := hw
  have h0 : ci < 11 := Nat.le_of_ble_eq_true h0
  intro p l e s m args below meth c0 g H locs ls C W0 S L0
  have hcl : qcCl[ci]? = some ((qc_clT ci).1, (qc_clT ci).2.1, qc_nf ci) := by rw [(qc_cl1 h0).1, ← (qc_cl1 h0).2]
  have hKn := W0.1.2.2.2.2.1.1 ci _ hcl
  refine W.newcK C.1 C.2.1 C.2.2.2.2.1 (C.2.2.2.2.2.1 _ (qc_pw_mem h1)) (C.2.2.2.2.2.1 _ (qc_pw_mem h2)) (C.2.2.2.2.2.1 _ (qc_pw_mem h3)) rfl hdg hc hs hKn.2.1 rfl fun H1 kC hkC e1 z1 o1 => ?_
  obtain ⟨hD, hS, ha⟩ := qc_WD.new (M' := (qc_z I w.1 0, qc_z L w.1 0, qc_z D w.1 0, qc_z R w.1 255)) W0 z1 o1 S (kd := ci) (ln := 0) (by
    rw [qc_cellO g _ _ _ h0]
    refine ⟨_, hcl, (u_born (qc_tyF ci) C.2.2.2.2.2.1 (qc_c4 h0) hKn hkC e1 (fun k hk => (qc_c2 h0 hk).2.1)).to (fun j hj => ?_)⟩
    have hj : j < qc_nf ci := hj
    unfold vp_V
    rw [List.getD_eq_getElem?_getD, qc_fs_get _ _ _ _ hj]
    have c := (qc_c2 h0 hj).2.2.1
    generalize qc_tyF ci j = ty at c ⊢
    generalize qc_tc ci j = tc at c ⊢
    cases ty <;> simp [qc_tyok] at c <;> first | (have c := Nat.eq_of_beq_eq_true c.1; subst c; simp [qc_fv, qc_z, defaultValue]; done) | (have c := Nat.eq_of_beq_eq_true c; subst c; simp [qc_fv, qc_z, defaultValue, qc_rv, qc_cv]; done) | (obtain ⟨c, -⟩ := c; subst c; simp [qc_fv, qc_z, defaultValue]; done) | (subst c; simp [qc_fv, qc_z, defaultValue, qc_rv, qc_cv]; done) | (subst c; rfl)) (fun kd ln b hb => qc_fv_off id I L D R _ _ _ _ (qc_z_off _ _ hb) (qc_z_off _ _ hb) (qc_z_off _ _ hb) (qc_z_off _ _ hb) g kd ln) hf
  have k2 := kk p l e s m args below meth c0 g H1 locs ls C hD hS L0
  simp only [List.map_cons, qc_cv, ha] at k2
  exact k2
theorem qc_newI (N : Nat) {n : Int32} (hd : qc_d mi (pc, pc', .newarray .int, a0, b0, v)) (hn : n = nI N) (hN : N < 60000) (hf : w.1 < qcNF → 100 = qc_kd w.1 ∧ N = qc_ln w.1) (hc : cu + 1 ≤ R0.cells) (hs : su + N ≤ R0.slots)
    (kk : qc_X R0 mi QQ (cu + 1) (su + N) (qc_wn w 100 N) (pc', lv, .ref w.1 :: st, qc_z I w.1 0, L, D, R)) : qc_X R0 mi QQ cu su w (pc, lv, .int n :: st, I, L, D, R) := by
  obtain ⟨rfl, hdg⟩ := hd.of (n := 1) rfl
  intro p l e s m args below meth c0 g H locs ls C W0 S L0
  have hw : Cond.arrayClass .int ∈ qc_wg := qc_pw_mem (i := 197) (by decide +kernel)
  have hneg : ¬ n < 0 := by rw [hn]; exact nI_pos (by omega)
  refine va_newaK C.1 C.2.1 (atype := .int) (C.2.2.2.2.2.1 _ hw) rfl hdg rfl hneg (by rw [hn]; exact nI_clamp (by omega)) (by show N * componentBytes .int ≤ _; simp [componentBytes]; omega) hc hs rfl fun H1 cA e1 z1 o1 hAr hNm => ?_
  have hcA : cA = g.2.1 0 := by
    have h5 := (W0.1.2.2.2.2.1.2 0 _ rfl).2
    exact Option.some.inj (hNm.symm.trans h5)
  obtain ⟨hD, hS, ha⟩ := qc_WD.new (M' := (qc_z I w.1 0, L, D, R)) W0 z1 o1 S (kd := 100) (ln := N) (by
    unfold qc_cell
    simp only [qc_z_on]
    show H1[H.size]? = some (vp_cell _ _)
    rw [e1, hcA]
    rfl) (fun kd ln b hb => qc_fv_off id I L D R _ _ _ _ (qc_z_off _ _ hb) rfl rfl rfl g kd ln) hf
  have k2 := kk p l e s m args below meth c0 g H1 locs ls C hD hS L0
  simp only [List.map_cons, qc_cv, ha] at k2
  exact k2
theorem qc_newL (N : Nat) {n : Int32} (hd : qc_d mi (pc, pc', .newarray .long, a0, b0, v)) (hn : n = nI N) (hN : N < 60000) (hf : w.1 < qcNF → 101 = qc_kd w.1 ∧ N = qc_ln w.1) (hc : cu + 1 ≤ R0.cells) (hs : su + N ≤ R0.slots)
    (kk : qc_X R0 mi QQ (cu + 1) (su + N) (qc_wn w 101 N) (pc', lv, .ref w.1 :: st, I, qc_z L w.1 0, D, R)) : qc_X R0 mi QQ cu su w (pc, lv, .int n :: st, I, L, D, R) := by
  obtain ⟨rfl, hdg⟩ := hd.of (n := 1) rfl
  intro p l e s m args below meth c0 g H locs ls C W0 S L0
  have hw : Cond.arrayClass .long ∈ qc_wg := qc_pw_mem (i := 198) (by decide +kernel)
  have hneg : ¬ n < 0 := by rw [hn]; exact nI_pos (by omega)
  refine va_newaK C.1 C.2.1 (atype := .long) (C.2.2.2.2.2.1 _ hw) rfl hdg rfl hneg (by rw [hn]; exact nI_clamp (by omega)) (by show N * componentBytes .long ≤ _; simp [componentBytes]; omega) hc hs rfl fun H1 cA e1 z1 o1 hAr hNm => ?_
  have hcA : cA = g.2.1 1 := by
    have h5 := (W0.1.2.2.2.2.1.2 1 _ rfl).2
    exact Option.some.inj (hNm.symm.trans h5)
  obtain ⟨hD, hS, ha⟩ := qc_WD.new (M' := (I, qc_z L w.1 0, D, R)) W0 z1 o1 S (kd := 101) (ln := N) (by
    unfold qc_cell
    simp only [qc_z_on]
    show H1[H.size]? = some (vp_cell _ _)
    rw [e1, hcA]
    rfl) (fun kd ln b hb => qc_fv_off id I L D R _ _ _ _ rfl (qc_z_off _ _ hb) rfl rfl g kd ln) hf
  have k2 := kk p l e s m args below meth c0 g H1 locs ls C hD hS L0
  simp only [List.map_cons, qc_cv, ha] at k2
  exact k2
theorem qc_newD (N : Nat) {n : Int32} (hd : qc_d mi (pc, pc', .newarray .double, a0, b0, v)) (hn : n = nI N) (hN : N < 60000) (hf : w.1 < qcNF → 102 = qc_kd w.1 ∧ N = qc_ln w.1) (hc : cu + 1 ≤ R0.cells) (hs : su + N ≤ R0.slots)
    (kk : qc_X R0 mi QQ (cu + 1) (su + N) (qc_wn w 102 N) (pc', lv, .ref w.1 :: st, I, L, qc_z D w.1 0, R)) : qc_X R0 mi QQ cu su w (pc, lv, .int n :: st, I, L, D, R) := by
  obtain ⟨rfl, hdg⟩ := hd.of (n := 1) rfl
  intro p l e s m args below meth c0 g H locs ls C W0 S L0
  have hw : Cond.arrayClass .double ∈ qc_wg := qc_pw_mem (i := 199) (by decide +kernel)
  have hneg : ¬ n < 0 := by rw [hn]; exact nI_pos (by omega)
  refine va_newaK C.1 C.2.1 (atype := .double) (C.2.2.2.2.2.1 _ hw) rfl hdg rfl hneg (by rw [hn]; exact nI_clamp (by omega)) (by show N * componentBytes .double ≤ _; simp [componentBytes]; omega) hc hs rfl fun H1 cA e1 z1 o1 hAr hNm => ?_
  have hcA : cA = g.2.1 2 := by
    have h5 := (W0.1.2.2.2.2.1.2 2 _ rfl).2
    exact Option.some.inj (hNm.symm.trans h5)
  obtain ⟨hD, hS, ha⟩ := qc_WD.new (M' := (I, L, qc_z D w.1 0, R)) W0 z1 o1 S (kd := 102) (ln := N) (by
    unfold qc_cell
    simp only [qc_z_on]
    show H1[H.size]? = some (vp_cell _ _)
    rw [e1, hcA]
    rfl) (fun kd ln b hb => qc_fv_off id I L D R _ _ _ _ rfl rfl (qc_z_off _ _ hb) rfl g kd ln) hf
  have k2 := kk p l e s m args below meth c0 g H1 locs ls C hD hS L0
  simp only [List.map_cons, qc_cv, ha] at k2
  exact k2
theorem qc_newC (N : Nat) {n : Int32} {idx p1 : Nat} (hd : qc_d mi (pc, pc', .anewarray idx, a0, b0, v)) (hw : qc_pw p1 (.classLink (qc_nm mi.1) idx "QueryClasses$Code") = true) (hn : n = nI N) (hN : N < 60000) (hf : w.1 < qcNF → 103 = qc_kd w.1 ∧ N = qc_ln w.1) (hc : cu + 1 ≤ R0.cells) (hs : su + N ≤ R0.slots)
    (kk : qc_X R0 mi QQ (cu + 1) (su + N) (qc_wn w 103 N) (pc', lv, .ref w.1 :: st, I, L, D, qc_z R w.1 255)) : qc_X R0 mi QQ cu su w (pc, lv, .int n :: st, I, L, D, R) := by
  obtain ⟨rfl, hdg⟩ := hd.of (n := 2) rfl
  intro p l e s m args below meth c0 g H locs ls C W0 S L0
  have hneg : ¬ n < 0 := by rw [hn]; exact nI_pos (by omega)
  have hcl : n.toNatClampNeg = N := by rw [hn]; exact nI_clamp (by omega)
  refine W.anew C.1 C.2.1 C.2.2.2.2.1 (C.2.2.2.2.2.1 _ (qc_pw_mem hw)) (va_AO.use C.2.2.2.2.2.2.2.2.2.1) rfl hdg rfl hneg (by rw [hcl]; omega) hc (by rw [hcl]; exact hs) fun cA kA comp f1 f2 f3 f4 => ?_
  rw [hcl]
  generalize hH1 : H.push ({ cls := cA, slots := Array.replicate N .null, vm := .none } : Cell) = H1
  have z1 : H1.size = H.size + 1 := by rw [← hH1, Array.size_push]
  have e1 : H1[H.size]? = some (arrV cA N (fun _ => .null)) := by rw [← hH1, Array.getElem?_push_size, ← arrV_new]
  have o1 : ∀ q : Nat, q < H.size → H1[q]? = H[q]? := fun q hq => by rw [← hH1, Array.getElem?_push, if_neg (Nat.ne_of_lt hq)]
  have hcA : cA = g.2.1 3 := by
    obtain ⟨-, -, -, -, -, h5⟩ := (W0.1.2.2.2.2.1.2 3 _ rfl).2
    exact Option.some.inj (f1.symm.trans h5)
  obtain ⟨hD, hS, ha⟩ := qc_WD.new (M' := (I, L, D, qc_z R w.1 255)) W0 z1 o1 S (kd := 103) (ln := N) (by
    unfold qc_cell
    simp only [qc_z_on]
    show H1[H.size]? = some (vp_cell _ _)
    rw [e1, hcA]
    rfl) (fun kd ln b hb => qc_fv_off id I L D R _ _ _ _ rfl rfl rfl (qc_z_off _ _ hb) g kd ln) hf
  have k2 := kk p l e s m args below meth c0 g H1 locs ls C hD hS L0
  simp only [List.map_cons, qc_cv, ha] at k2
  exact k2
theorem qc_newQ (N : Nat) {n : Int32} {idx p1 : Nat} (hd : qc_d mi (pc, pc', .anewarray idx, a0, b0, v)) (hw : qc_pw p1 (.classLink (qc_nm mi.1) idx "QueryClasses$Query") = true) (hn : n = nI N) (hN : N < 60000) (hf : w.1 < qcNF → 104 = qc_kd w.1 ∧ N = qc_ln w.1) (hc : cu + 1 ≤ R0.cells) (hs : su + N ≤ R0.slots)
    (kk : qc_X R0 mi QQ (cu + 1) (su + N) (qc_wn w 104 N) (pc', lv, .ref w.1 :: st, I, L, D, qc_z R w.1 255)) : qc_X R0 mi QQ cu su w (pc, lv, .int n :: st, I, L, D, R) := by
  obtain ⟨rfl, hdg⟩ := hd.of (n := 2) rfl
  intro p l e s m args below meth c0 g H locs ls C W0 S L0
  have hneg : ¬ n < 0 := by rw [hn]; exact nI_pos (by omega)
  have hcl : n.toNatClampNeg = N := by rw [hn]; exact nI_clamp (by omega)
  refine W.anew C.1 C.2.1 C.2.2.2.2.1 (C.2.2.2.2.2.1 _ (qc_pw_mem hw)) (va_AO.use C.2.2.2.2.2.2.2.2.2.2) rfl hdg rfl hneg (by rw [hcl]; omega) hc (by rw [hcl]; exact hs) fun cA kA comp f1 f2 f3 f4 => ?_
  rw [hcl]
  generalize hH1 : H.push ({ cls := cA, slots := Array.replicate N .null, vm := .none } : Cell) = H1
  have z1 : H1.size = H.size + 1 := by rw [← hH1, Array.size_push]
  have e1 : H1[H.size]? = some (arrV cA N (fun _ => .null)) := by rw [← hH1, Array.getElem?_push_size, ← arrV_new]
  have o1 : ∀ q : Nat, q < H.size → H1[q]? = H[q]? := fun q hq => by rw [← hH1, Array.getElem?_push, if_neg (Nat.ne_of_lt hq)]
  have hcA : cA = g.2.1 4 := by
    obtain ⟨-, -, -, -, -, h5⟩ := (W0.1.2.2.2.2.1.2 4 _ rfl).2
    exact Option.some.inj (f1.symm.trans h5)
  obtain ⟨hD, hS, ha⟩ := qc_WD.new (M' := (I, L, D, qc_z R w.1 255)) W0 z1 o1 S (kd := 104) (ln := N) (by
    unfold qc_cell
    simp only [qc_z_on]
    show H1[H.size]? = some (vp_cell _ _)
    rw [e1, hcA]
    rfl) (fun kd ln b hb => qc_fv_off id I L D R _ _ _ _ rfl rfl rfl (qc_z_off _ _ hb) g kd ln) hf
  have k2 := kk p l e s m args below meth c0 g H1 locs ls C hD hS L0
  simp only [List.map_cons, qc_cv, ha] at k2
  exact k2
theorem qc_oI {idx p1 : Nat} (hd : qc_d mi (pc, pc', .invokespecial idx, a0, b0, v)) (hl : qc_pw p1 (.methodLink (qc_nm mi.1) idx objectInit) = true) (hfr : 1 ≤ R0.frames) (hst : (st.map fun v => v.category).sum + 12 ≤ R0.locals) (kk : qc_X R0 mi QQ cu su w (pc', lv, st, M)) : qc_X R0 mi QQ cu su w (pc, lv, .ref a :: st, M) := by
  obtain ⟨rfl, hdg⟩ := hd.of (n := 2) rfl
  intro p l e s m args below meth c0 g H locs ls C W0 S L0
  have w1 : Cond.instanceMethod objectInit ∈ qc_wg := qc_pw_mem (i := 164) (by decide +kernel)
  have w2 : Cond.code objectInit ⟨#[0xb1]⟩ 1 none ∈ qc_wg := qc_pw_mem (i := 165) (by decide +kernel)
  refine W.objInit C.1 C.2.1 C.2.2.2.2.1 (C.2.2.2.2.2.1 _ (qc_pw_mem hl)) (C.2.2.2.2.2.1 _ w1) (C.2.2.2.2.2.1 _ w2) rfl (L0.1.trans C.2.2.2.1.symm) rfl hdg hfr ?_ (kk p l e s m args below meth c0 g H locs ls C W0 S L0)
  show 2 * 0 + ((st.map (qc_cv g.2.2.1)).map fun v => v.category).sum + 12 ≤ R0.locals
  rw [List.map_map, show ((fun v : Value => v.category) ∘ qc_cv g.2.2.1) = (fun v : Value => v.category) from funext (fun v => qc_cat _ v)]
  omega
theorem qc_pVF {i ci k : Nat} {z : Value} (hd : qc_d mi (pc, pc', .putfield i, ci, k, v)) (ha : qc_ki w a ci) (hf : qc_fz ci k % 2 = 1) (hi1 : mi.2.1.name = "<init>") (hi2 : (qc_clT ci).1 = qc_nm mi.1) (hn : ∀ f, narrow (qc_tyF ci k) (qc_cv f z) = qc_cv f z) (hfit : ∀ f, fits (qc_tyF ci k) (qc_cv f z) = true)
    (h1 : ∀ f, qc_fv f M' a k (qc_tc ci k) = qc_cv f z) (h2 : ∀ f j, j ≠ k → qc_fv f M' a j (qc_tc ci j) = qc_fv f M a j (qc_tc ci j)) (ho : ∀ g kd ln b, b ≠ a → qc_cell g kd ln M' b = qc_cell g kd ln M b) (kk : qc_X R0 mi QQ cu su w (pc', lv, st, M')) : qc_X R0 mi QQ cu su w (pc, lv, z :: .ref a :: st, M) := by
  obtain ⟨rfl, hdg⟩ := hd.of (n := 2) rfl
  have hx := hd.aux
  intro p l e s m args below meth c0 g H locs ls C D S L
  obtain ⟨q1, q2, q3⟩ := qc_fl_use hx C.2.2.2.2.2.1 C.2.2.2.2.2.2.2.2
  have he := ha.get D.1
  have hc : qcCl[ci]? = some ((qc_clT ci).1, (qc_clT ci).2.1, qc_nf ci) := by rw [(qc_cl1 q1).1, ← (qc_cl1 q1).2]
  have c2 := qc_c2 q1 q2
  have hfin : ((qc_clT ci).2.1 k).2.2.2 = true := by rw [c2.2.2.2, hf]; rfl
  have hk : w.2.1 a = ci := by
    rcases ha.2.2.2 with h4 | ⟨h5, h6⟩
    · exact h4
    · rw [(D.1.2.2.2.2.2.1 a ha.2.2.1 ha.2.1 h5).1]; exact h6
  have fin : ∀ (H1 : Heap) (locs1 : List Loc), H1.size = H.size → va_P g.1 qcCl ((qc_wl g w M).set (a - 256) (g.2.2.1 a, .inr (ci, ((List.range (qc_nf ci)).map (fun k => qc_fv g.2.2.1 M a k (qc_tc ci k))).set k (qc_cv g.2.2.1 z)))) H1 → va_S (qc_own g) s.heap H1 locs1 → W p l e R0 s m args below meth c0 H1 locs1 cu su (QQ g below args s) (F0 m (pc + 3) ls (st.map (qc_cv g.2.2.1))) := by
    intro H1 locs1 hz hP hS
    refine kk p l e s m args below meth c0 g H1 locs1 ls C (qc_WD.put D ha.2.1 ha.2.2.1 hz hP hS S ?_ (fun b hb => ho g _ _ b hb)) hS L
    rw [hk, qc_cellO g _ M' a q1, qc_fs_set g.2.2.1 M M' a ci q2 (h1 g.2.2.1) (h2 g.2.2.1)]
  have q3 := qc_fl_own hx hi2 C.2.2.2.2.2.1
  exact qc_putC C.1 C.2.1 C.2.2.2.2.2.1 (qc_c4 q1) (qc_tyF ci) (fun k hk => (qc_c2 q1 hk).2.1) (qc_c3 q1) C.2.2.2.2.1 D.1.2.2.2.2.1 D.1.2.2.2.1 (qc_D g w M) S (a - 256) he hc k q2 c2.1 q3 hfin (C.2.2.2.2.2.2.2.1.trans hi1) hi2 (hn g.2.2.1) (hfit g.2.2.1) (by simpa using q2) hdg fin
theorem qc_pfI {i ci k : Nat} {x : Int32} (hd : qc_d mi (pc, pc', .putfield i, ci, k, v)) (hk : qc_ki w a ci) (hb : (Nat.blt k (qc_nf ci) && Nat.beq (qc_fz ci k % 2) 1 && Nat.beq (qc_tc ci k) 0 && Nat.ble (qc_fz ci k) 1) = true) (hi1 : mi.2.1.name = "<init>") (hi2 : (qc_clT ci).1 = qc_nm mi.1) (kk : qc_X R0 mi QQ cu su w (pc', lv, st, qc_u I a k x, L, D, R)) : qc_X R0 mi QQ cu su w (pc, lv, .int x :: .ref a :: st, I, L, D, R) := by
  simp only [Bool.and_eq_true] at hb
  obtain ⟨⟨⟨hb1, hb2⟩, hb3⟩, hb4⟩ := hb
  have hb1 : k < qc_nf ci := Nat.le_of_ble_eq_true hb1
  have hb2 := Nat.eq_of_beq_eq_true hb2
  have htc := Nat.eq_of_beq_eq_true hb3
  have hty := qc_tyk (t := 0) hk.1 hb1 (by simp only [Nat.beq, cond, Bool.and_eq_true]; exact ⟨hb3, hb4⟩)
  refine qc_pVF hd hk hb2 hi1 hi2 (fun f => ?_) (fun f => ?_) (fun f => ?_) (fun f j hj => ?_) (fun g kd ln b hb => ?_) kk
  · rw [hty.1 rfl]; rfl
  · rw [hty.1 rfl]; rfl
  · rw [htc]
    unfold qc_fv
    simp only [qc_u_at]
    rfl
  · unfold qc_fv
    simp only [qc_u_ne _ x (Or.inr hj : a ≠ a ∨ j ≠ k)]
  · exact qc_fv_off id I L D R _ _ _ _ (qc_u_off _ x hb) rfl rfl rfl g kd ln
theorem qc_pfR {i ci k : Nat} {x : Nat} (hd : qc_d mi (pc, pc', .putfield i, ci, k, v)) (hk : qc_ki w a ci) (hb : (Nat.blt k (qc_nf ci) && Nat.beq (qc_fz ci k % 2) 1 && Nat.beq (qc_tc ci k) 3 && Nat.ble (qc_fz ci k) 1) = true) (hi1 : mi.2.1.name = "<init>") (hi2 : (qc_clT ci).1 = qc_nm mi.1) (hx : Nat.beq x 255 = false) (kk : qc_X R0 mi QQ cu su w (pc', lv, st, I, L, D, qc_u R a k x)) : qc_X R0 mi QQ cu su w (pc, lv, .ref x :: .ref a :: st, I, L, D, R) := by
  simp only [Bool.and_eq_true] at hb
  obtain ⟨⟨⟨hb1, hb2⟩, hb3⟩, hb4⟩ := hb
  have hb1 : k < qc_nf ci := Nat.le_of_ble_eq_true hb1
  have hb2 := Nat.eq_of_beq_eq_true hb2
  have htc := Nat.eq_of_beq_eq_true hb3
  have hty := qc_tyk (t := 3) hk.1 hb1 (by simp only [Nat.beq, cond, Bool.and_eq_true]; exact ⟨hb3, hb4⟩)
  refine qc_pVF hd hk hb2 hi1 hi2 (fun f => ?_) (fun f => ?_) (fun f => ?_) (fun f j hj => ?_) (fun g kd ln b hb => ?_) kk
  · rcases hty.2.2.2.1 rfl with ⟨n, e⟩ | ⟨n, e⟩ <;> rw [e] <;> rfl
  · rcases hty.2.2.2.1 rfl with ⟨n, e⟩ | ⟨n, e⟩ <;> rw [e] <;> rfl
  · rw [htc]
    unfold qc_fv
    simp only [qc_u_at]
    unfold qc_rv
    rw [hx]
    rfl
  · unfold qc_fv
    simp only [qc_u_ne _ x (Or.inr hj : a ≠ a ∨ j ≠ k)]
  · exact qc_fv_off id I L D R _ _ _ _ rfl rfl rfl (qc_u_off _ x hb) g kd ln
end QCN
