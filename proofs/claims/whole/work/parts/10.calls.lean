/-! calls -/
def qc_pw (i : Nat) (w : Cond) : Bool := decide (lw_tbl[i]? = some w) && goodWord w
theorem qc_pw_mem {i : Nat} {w : Cond} (h : qc_pw i w = true) : w ∈ qc_wg := by
  unfold qc_pw at h
  simp only [Bool.and_eq_true, decide_eq_true_eq] at h
  exact List.mem_filter.mpr ⟨List.mem_of_getElem? h.1, h.2⟩
/-- what a call of a method rests on: its code, its class, how many arguments (kind 0: of an object, 1: static, 2: a constructor) -/
def qc_mf (mi : qcI) (kind n p1 p2 p3 p4 : Nat) : Bool :=
  qc_pw p1 (.code mi.2.1 mi.2.2.1 mi.2.2.2.1 mi.2.2.2.2) && qc_pw p2 (.initialized mi.2.1.cls) && decide ((parseMethodDescriptor mi.2.1.desc).map (fun d => d.parameters.length) = some n) && decide (mi.2.1.cls ≠ "java/lang/invoke/MethodHandle" ∧ mi.2.1.cls ≠ "java/lang/invoke/VarHandle") &&
  (match kind with
   | 0 => qc_pw p3 (.instanceMethod mi.2.1) && qc_pw p4 (.selects mi.2.1.cls mi.2.1 mi.2.1)
   | 1 => qc_pw p3 (.static mi.2.1)
   | _ => qc_pw p3 (.instanceMethod mi.2.1) && decide (mi.2.1.name = "<init>"))
def qc_lk2 (o idx p : Nat) (y : MethodName) : Bool := qc_pw p (.methodLink (qc_nm o) idx y)
theorem qc_words {mi : qcI} {s : State} {args : Array Value} (hts : ∀ w ∈ qc_wg, w.before args s = true) (hc : Cond.code mi.2.1 mi.2.2.1 mi.2.2.2.1 mi.2.2.2.2 ∈ qc_wg) : ∀ w ∈ qc_ws mi, ∀ (a' : Array Value) (U : State), s.WarmedH U.vm → w.before a' U = true := by
  have h1 : ∀ w ∈ qc_wg, ∀ (a' : Array Value) (U : State), s.WarmedH U.vm → w.before a' U = true := fun w hw a' U hW => word_at hW (good_of_word (List.mem_filter.mp hw).2) (hts w hw)
  intro w hw
  rcases List.mem_cons.mp hw with h | h
  · rw [h]; exact h1 _ hc
  · exact h1 w h
theorem qc_mf_B {mi : qcI} {kind n p1 p2 p3 p4 : Nat} (h : qc_mf mi kind n p1 p2 p3 p4 = true) {R : Room} {s : State} {args : Array Value} {o idx p d mc ms : Nat} (hts : ∀ w ∈ qc_wg, w.before args s = true) (hl : qc_lk2 o idx p mi.2.1 = true) (hR : d + 1 ≤ R.frames ∧ 8 + (mi.2.2.2.1 + 11) + 64 * d ≤ R.locals) :
    CallB R s args (qc_nm o) idx mi.2.1 mi.2.2.1 mi.2.2.2.1 mi.2.2.2.2 (qc_ws mi) (qc_rm d mc ms) mc ms n := by
  unfold qc_mf at h
  simp only [Bool.and_eq_true, decide_eq_true_eq] at h
  obtain ⟨⟨⟨⟨h1, h2⟩, h3⟩, h4⟩, -⟩ := h
  have hc := qc_pw_mem h1
  refine ⟨rfl, rfl, hR.1, hR.2, qc_words hts hc, List.mem_cons_self, hts _ hc, hts _ (qc_pw_mem h2), h4, fun sig hs => ?_, hts _ (qc_pw_mem hl)⟩
  rw [hs] at h3
  exact (Option.some.inj h3).symm
section QCK
variable {p : Program} {l : Launch} {e : Env} {R : Room} {s : State} {m : MethodId} {args : Array Value} {below : List Frame} {meth : Method} {c : Code} {H : Heap} {locs : List Loc} {cells slots : Nat} {Q : State → Prop}
theorem qc_callX {pc mc ms : Nat} {ls : Array Slot} {st0 rest : List Value} {a : Array Value} {Z : qcZ} {g : qcG} (hr : va_Run p l e R s m args below meth c H locs cells slots mc ms (F0 m pc ls st0) rest (qc_Q Z g a) (qc_own g)) (hS : va_S (qc_own g) s.heap H locs)
    (kk : ∀ (r : Option Value) (w1 : qcW) (M1 : qcM) (t : State) (H1 : Heap) (locs1 : List Loc), Z r w1 M1 → qc_WD g w1 M1 s H1 → va_S (qc_own g) s.heap H1 locs1 → W p l e R s m args below meth c H1 locs1 (cells + mc) (slots + ms) Q (F0 m (pc + 3) ls ((r.map (qc_cv g.2.2.1)).toList ++ rest))) : W p l e R s m args below meth c H locs cells slots Q (F0 m pc ls st0) := by
  intro T hT X
  obtain ⟨v, st₀, t, T', L, h0, X', hL, e1, e2, ⟨⟨r, w1, M1, hv, hz, hW⟩, hz1, hk⟩, st⟩ := hr T hT X
  cases hv
  rw [h0] at hz1 hk
  have hal : s.vm.Alike t.vm := by rw [← e2]; exact X'.warmed.alike
  obtain ⟨t2, a1, b1⟩ := kk r w1 M1 t t.heap (locs ++ L) hz (hW.moved hal.symm)
    ⟨Nat.le_trans hS.1 hz1, fun q h1 h2 => by rw [hk q (Nat.lt_of_lt_of_le h1 hS.1) h2]; exact hS.2.1 q h1 h2, fun q hq => by
      rcases List.mem_append.mp hq with h | h
      · exact hS.2.2 q h
      · exact hL q h⟩ T' e1 X'
  exact ⟨t2, st t2 a1, b1⟩
end QCK
section QCL
variable {R : Room} {mi : qcI} {QQ : qcQ} {cu su : Nat} {w : qcW} {pc pc' : Nat} {lv : List (Nat × Value)} {st : List Value} {M : qcM} {a b : Nat} {v : Value} {d mc ms : Nat} {m2 : qcI} {as : List Value} {Z : qcZ} {n p1 p2 p3 p4 q : Nat}
theorem qc_preS {g : qcG} {s : State} {H : Heap} (D : qc_WD g w M s H) (N : qc_NW s) : PreS s H (qc_P g as w M) (as.map (qc_cv g.2.2.1)) :=
  ⟨qc_P_blind g as w M, fun U hU hW => ⟨rfl, by rw [hU]; exact D.moved hW.alike, N.warm hW⟩⟩
theorem qc_cS {idx : Nat} {as' : List Value} (hd : qc_d mi (pc, pc', .invokestatic idx, a, b, v)) (hl : qc_lk2 mi.1 idx q m2.2.1 = true) (hm : qc_mf m2 1 n p1 p2 p3 p4 = true) (hV : qc_V d mc ms m2 as w M Z) (hn : Nat.beq as.length n = true) (hs : as' = as.reverse ++ st) (hst : (st.map fun v => v.category).sum ≤ 8) (hR : d + 1 ≤ R.frames ∧ 8 + (m2.2.2.2.1 + 11) + 64 * d ≤ R.locals) (hf : cu + mc ≤ R.cells ∧ su + ms ≤ R.slots)
    (kk : ∀ (r : Option Value) (w1 : qcW) (M1 : qcM), Z r w1 M1 → qc_X R mi QQ (cu + mc) (su + ms) w1 (pc', lv, r.toList ++ st, M1)) : qc_X R mi QQ cu su w (pc, lv, as', M) := by
  obtain ⟨rfl, hdg⟩ := hd.of (n := 2) rfl
  have hn := Nat.eq_of_beq_eq_true hn
  subst hs
  intro p l e s m args below meth c0 g H locs ls C D S L
  have hB := qc_mf_B hm (R := R) (d := d) (mc := mc) (ms := ms) C.2.2.2.2.2.1 hl hR
  have hst2 : (Cond.static m2.2.1).before args s = true := by
    unfold qc_mf at hm
    simp only [Bool.and_eq_true] at hm
    exact C.2.2.2.2.2.1 _ (qc_pw_mem hm.2)
  have hp := qc_preS (as := as) D.1 C.2.2.2.2.2.2.2.2
  refine qc_callX (rest := st.map (qc_cv g.2.2.1)) (va_runS (As := as.map (qc_cv g.2.2.1)) ⟨C.1, C.2.1, C.2.2.2.1, C.2.2.2.2.1, C.2.2.2.2.2.1⟩ (hV l g) ⟨hB, hst2⟩ hp rfl (by rw [List.length_map]; exact hn) L.1 (by simp) (lv_room (by rw [List.map_map]; simpa [Function.comp_def, qc_cat] using hst)) hdg hf) S (fun r w1 M1 t H1 locs1 hz hW hS => ?_)
  have k2 := kk r w1 M1 hz p l e s m args below meth c0 g H1 locs1 ls C ⟨hW, D.2⟩ hS L
  rw [show (r.toList ++ st).map (qc_cv g.2.2.1) = (r.map (qc_cv g.2.2.1)).toList ++ st.map (qc_cv g.2.2.1) by cases r <;> simp] at k2
  exact k2
theorem qc_cV {idx ci a0 : Nat} {as' : List Value} (hd : qc_d mi (pc, pc', .invokevirtual idx, a, b, v)) (hl : qc_lk2 mi.1 idx q m2.2.1 = true) (hm : qc_mf m2 0 n p1 p2 p3 p4 = true) (hk : qc_ki w a0 ci) (hcl : (qc_clT ci).1 = m2.2.1.cls) (hV : qc_V d mc ms m2 (.ref a0 :: as) w M Z) (hn : Nat.beq as.length n = true) (hs : as' = as.reverse ++ .ref a0 :: st) (hst : (st.map fun v => v.category).sum ≤ 8) (hR : d + 1 ≤ R.frames ∧ 8 + (m2.2.2.2.1 + 11) + 64 * d ≤ R.locals) (hf : cu + mc ≤ R.cells ∧ su + ms ≤ R.slots)
    (kk : ∀ (r : Option Value) (w1 : qcW) (M1 : qcM), Z r w1 M1 → qc_X R mi QQ (cu + mc) (su + ms) w1 (pc', lv, r.toList ++ st, M1)) : qc_X R mi QQ cu su w (pc, lv, as', M) := by
  obtain ⟨rfl, hdg⟩ := hd.of (n := 2) rfl
  have hn := Nat.eq_of_beq_eq_true hn
  subst hs
  intro p l e s m args below meth c0 g H locs ls C D S L
  have hB := qc_mf_B hm (R := R) (d := d) (mc := mc) (ms := ms) C.2.2.2.2.2.1 hl hR
  unfold qc_mf at hm
  simp only [Bool.and_eq_true] at hm
  have hi := C.2.2.2.2.2.1 _ (qc_pw_mem hm.2.1)
  have hse := C.2.2.2.2.2.1 _ (qc_pw_mem hm.2.2)
  have hp := qc_preS (as := .ref a0 :: as) D.1 C.2.2.2.2.2.2.2.2
  have hc : qcCl[ci]? = some ((qc_clT ci).1, (qc_clT ci).2.1, qc_nf ci) := by rw [(qc_cl1 hk.1).1, ← (qc_cl1 hk.1).2]
  have hrec := va_recv D.1.2.2.2.2.1 D.1.2.2.2.1 (ci := ci) (q0 := a0 - 256) hc (hk.get D.1)
  rw [show ((qc_clT ci).1, (qc_clT ci).2.1, qc_nf ci).1 = m2.2.1.cls from hcl] at hrec
  refine qc_callX (rest := st.map (qc_cv g.2.2.1)) (va_runV (b := g.2.2.1 a0) (C := m2.2.1.cls) (As := as.map (qc_cv g.2.2.1)) ⟨C.1, C.2.1, C.2.2.2.1, C.2.2.2.2.1, C.2.2.2.2.2.1⟩ (hV l g) ⟨hB, hi, hse⟩ ⟨hp.1, hrec, hp.2⟩ rfl (by rw [List.length_map]; exact hn) L.1 (by simp [qc_cv]) (lv_room (by rw [List.map_map]; simpa [Function.comp_def, qc_cat] using hst)) hdg hf) S (fun r w1 M1 t H1 locs1 hz hW hS => ?_)
  have k2 := kk r w1 M1 hz p l e s m args below meth c0 g H1 locs1 ls C ⟨hW, D.2⟩ hS L
  rw [show (r.toList ++ st).map (qc_cv g.2.2.1) = (r.map (qc_cv g.2.2.1)).toList ++ st.map (qc_cv g.2.2.1) by cases r <;> simp] at k2
  exact k2
theorem qc_cI {idx a0 : Nat} {as' : List Value} (hd : qc_d mi (pc, pc', .invokespecial idx, a, b, v)) (hl : qc_lk2 mi.1 idx q m2.2.1 = true) (hm : qc_mf m2 2 n p1 p2 p3 p4 = true) (hret : m2.2.2.2.2 = none) (hV : qc_V d mc ms m2 (.ref a0 :: as) w M Z) (hn : Nat.beq as.length n = true) (hs : as' = as.reverse ++ .ref a0 :: st) (hst : (st.map fun v => v.category).sum ≤ 8) (hR : d + 1 ≤ R.frames ∧ 8 + (m2.2.2.2.1 + 11) + 64 * d ≤ R.locals) (hf : cu + mc ≤ R.cells ∧ su + ms ≤ R.slots)
    (kk : ∀ (r : Option Value) (w1 : qcW) (M1 : qcM), Z r w1 M1 → qc_X R mi QQ (cu + mc) (su + ms) w1 (pc', lv, r.toList ++ st, M1)) : qc_X R mi QQ cu su w (pc, lv, as', M) := by
  obtain ⟨rfl, hdg⟩ := hd.of (n := 2) rfl
  have hn := Nat.eq_of_beq_eq_true hn
  subst hs
  intro p l e s m args below meth c0 g H locs ls C D S L
  have hB := qc_mf_B hm (R := R) (d := d) (mc := mc) (ms := ms) C.2.2.2.2.2.1 hl hR
  rw [hret] at hB
  unfold qc_mf at hm
  simp only [Bool.and_eq_true, decide_eq_true_eq] at hm
  have hi := C.2.2.2.2.2.1 _ (qc_pw_mem hm.2.1)
  have hp := qc_preS (as := .ref a0 :: as) D.1 C.2.2.2.2.2.2.2.2
  refine qc_callX (rest := st.map (qc_cv g.2.2.1)) (va_runI (b := g.2.2.1 a0) (As := as.map (qc_cv g.2.2.1)) ⟨C.1, C.2.1, C.2.2.2.1, C.2.2.2.2.1, C.2.2.2.2.2.1⟩ (hV l g) ⟨hB, hm.2.2, hi⟩ hp rfl (by rw [List.length_map]; exact hn) L.1 (by simp [qc_cv]) (lv_room (by rw [List.map_map]; simpa [Function.comp_def, qc_cat] using hst)) hdg hf) S (fun r w1 M1 t H1 locs1 hz hW hS => ?_)
  have k2 := kk r w1 M1 hz p l e s m args below meth c0 g H1 locs1 ls C ⟨hW, D.2⟩ hS L
  rw [show (r.toList ++ st).map (qc_cv g.2.2.1) = (r.map (qc_cv g.2.2.1)).toList ++ st.map (qc_cv g.2.2.1) by cases r <;> simp] at k2
  exact k2
end QCL
