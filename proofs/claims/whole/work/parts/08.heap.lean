/-! stores that keep the number of cells in sight (the size of the heap), and the rules over the own world -/
section QCS
variable {p : Program} {l : Launch} {e : Env} {R : Room} {s : State} {m : MethodId} {args : Array Value} {below : List Frame} {meth : Method} {c : Code} {H : Heap} {locs : List Loc} {cells slots : Nat} {Q : State → Prop}
variable {cc : ByteArray} {pc : Nat} {ls : Array Slot} {rest : List Value} {D : va_G} {cl : List vw_C} {A : Nat → Prop} {a : Nat} {tys : List (ClassId × FieldType)} {ws : va_W} {H0 : Heap}
theorem qc_putA (hexec : p.tables.exec = Jvm.exec) (hb : c.code = cc) {own C : String} {T : u_T} {N ci index : Nat} {Ts : List Cond} (hts : ∀ w ∈ Ts, w.before args s = true) (hin : ∀ w ∈ u_ws C T N, w ∈ Ts) (ty0 : Nat → FieldType) (hty : ∀ k, k < N → parseFieldDescriptor (T k).2.2.1 = some (ty0 k)) (hnm : ∀ a, a < N → ∀ b, b < N → a ≠ b → (T a).2.1 ≠ (T b).2.1) (hown : s.vm.findClass own = some m.cls) (hK : va_K D cl tys s) (hP : va_P D cl ws H) (hD : va_D A ws) (hS0 : va_S A H0 H locs) (q0 : Nat) {fs : List Value} (he : ws[q0]? = some (a, .inr (ci, fs))) (hc : cl[ci]? = some (C, T, N)) (k : Nat) (hk : k < N) (hdc : (T k).1 = C) (hlink : (Cond.fieldLink own index C (T k).2.1 (T k).2.2.1).before args s = true) (hfin : (T k).2.2.2 = false) {v : Value} (hn : narrow (ty0 k) v = v) (hfit : fits (ty0 k) v = true) (hl : k < fs.length) (hdg : decode cc pc = .ok (.putfield index, 3))
    (kk : ∀ (H1 : Heap) (locs1 : List Loc), H1.size = H.size → va_P D cl (ws.set q0 (a, .inr (ci, fs.set k v))) H1 → va_S A H0 H1 locs1 → W p l e R s m args below meth c H1 locs1 cells slots Q (F0 m (pc + 3) ls rest)) : W p l e R s m args below meth c H locs cells slots Q (F0 m pc ls (v :: .ref a :: rest)) := by
  have hap := va_apart (own := own) hts hin ty0 hty hnm hK hc
  obtain ⟨r, h1, cell, q1, q2, q3, q4⟩ := hP q0 _ he
  have hr : r = (C, T, N) := Option.some.inj (h1.symm.trans hc)
  subst hr
  obtain ⟨hS, hfc, kC, hkC, hkind⟩ := hK.1 ci _ hc
  obtain ⟨cf, kf, fi, f, hi, hsl⟩ := hS k hk
  have hi2 : s.fieldFound? C (T k).2.1 (T k).2.2.1 = some (cf, kf, fi, f) := by rw [← hdc]; exact hi
  have hlay := hts _ (hin _ (u_in_lay hk))
  unfold u_lay at hlay
  rw [if_neg (by rw [hfin]; decide)] at hlay
  have hst := (u_facts hfc hkC (u_lays hts hin hk) hi).1
  have h6 := u_store hfc hkC hkind hlay hi (hty k hk) hn hfit
  refine W.putK hexec hb (f := f) ⟨hown, hlink, ⟨_, _, _, hi2⟩, hst⟩ (by rw [q2]; exact h6) q1 q3 (by rw [hsl]; exact k2_hasslot (q4 k hk)) rfl rfl hdg fun H' e1 e2 e3 => ?_
  rw [hsl] at e1 ⊢
  exact kk H' _ e2 (hP.set hD he ⟨_, hc, t_OB.to (V := updV (vp_V fs) k v) ⟨_, e1, q2, q3, t_set q4 hap hk v⟩ (fun j _ => vp_updV_set hl v j)⟩ e3) (hS0.put e2 e3 (hD.2 q0 _ he))
theorem qc_putB (hexec : p.tables.exec = Jvm.exec) (hb : c.code = cc) {own C : String} {T : u_T} {N ci index : Nat} {Ts : List Cond} (hts : ∀ w ∈ Ts, w.before args s = true) (hin : ∀ w ∈ u_ws C T N, w ∈ Ts) (ty0 : Nat → FieldType) (hty : ∀ k, k < N → parseFieldDescriptor (T k).2.2.1 = some (ty0 k)) (hnm : ∀ a, a < N → ∀ b, b < N → a ≠ b → (T a).2.1 ≠ (T b).2.1) (hown : s.vm.findClass own = some m.cls) (hK : va_K D cl tys s) (hP : va_P D cl ws H) (hD : va_D A ws) (hS0 : va_S A H0 H locs) (q0 : Nat) {fs : List Value} (he : ws[q0]? = some (a, .inr (ci, fs))) (hc : cl[ci]? = some (C, T, N)) (k : Nat) (hk : k < N) (hdc : (T k).1 = C) (hlink : (Cond.fieldLinkNest own index C (T k).2.1 (T k).2.2.1 "QueryClasses").before args s = true) (hfin : (T k).2.2.2 = false) {v : Value} (hn : narrow (ty0 k) v = v) (hfit : fits (ty0 k) v = true) (hl : k < fs.length) (hdg : decode cc pc = .ok (.putfield index, 3))
    (kk : ∀ (H1 : Heap) (locs1 : List Loc), H1.size = H.size → va_P D cl (ws.set q0 (a, .inr (ci, fs.set k v))) H1 → va_S A H0 H1 locs1 → W p l e R s m args below meth c H1 locs1 cells slots Q (F0 m (pc + 3) ls rest)) : W p l e R s m args below meth c H locs cells slots Q (F0 m pc ls (v :: .ref a :: rest)) := by
  have hap := va_apart (own := own) hts hin ty0 hty hnm hK hc
  obtain ⟨r, h1, cell, q1, q2, q3, q4⟩ := hP q0 _ he
  have hr : r = (C, T, N) := Option.some.inj (h1.symm.trans hc)
  subst hr
  obtain ⟨hS, hfc, kC, hkC, hkind⟩ := hK.1 ci _ hc
  obtain ⟨cf, kf, fi, f, hi, hsl⟩ := hS k hk
  have hi2 : s.fieldFound? C (T k).2.1 (T k).2.2.1 = some (cf, kf, fi, f) := by rw [← hdc]; exact hi
  have hlay := hts _ (hin _ (u_in_lay hk))
  unfold u_lay at hlay
  rw [if_neg (by rw [hfin]; decide)] at hlay
  have hst := (u_facts hfc hkC (u_lays hts hin hk) hi).1
  have h6 := u_store hfc hkC hkind hlay hi (hty k hk) hn hfit
  refine va_WputK hexec hb (f := f) hown hlink hi2 hst (by rw [q2]; exact h6) q1 q3 (by rw [hsl]; exact k2_hasslot (q4 k hk)) rfl rfl hdg fun H' e1 e2 e3 => ?_
  rw [hsl] at e1 ⊢
  exact kk H' _ e2 (hP.set hD he ⟨_, hc, t_OB.to (V := updV (vp_V fs) k v) ⟨_, e1, q2, q3, t_set q4 hap hk v⟩ (fun j _ => vp_updV_set hl v j)⟩ e3) (hS0.put e2 e3 (hD.2 q0 _ he))
theorem qc_putC (hexec : p.tables.exec = Jvm.exec) (hb : c.code = cc) {own C : String} {T : u_T} {N ci index : Nat} {Ts : List Cond} (hts : ∀ w ∈ Ts, w.before args s = true) (hin : ∀ w ∈ u_ws C T N, w ∈ Ts) (ty0 : Nat → FieldType) (hty : ∀ k, k < N → parseFieldDescriptor (T k).2.2.1 = some (ty0 k)) (hnm : ∀ a, a < N → ∀ b, b < N → a ≠ b → (T a).2.1 ≠ (T b).2.1) (hown : s.vm.findClass own = some m.cls) (hK : va_K D cl tys s) (hP : va_P D cl ws H) (hD : va_D A ws) (hS0 : va_S A H0 H locs) (q0 : Nat) {fs : List Value} (he : ws[q0]? = some (a, .inr (ci, fs))) (hc : cl[ci]? = some (C, T, N)) (k : Nat) (hk : k < N) (hdc : (T k).1 = C) (hlink : (Cond.fieldLink own index C (T k).2.1 (T k).2.2.1).before args s = true) (hfin : (T k).2.2.2 = true) (hin2 : meth.name = "<init>") (hdecl : C = own) {v : Value} (hn : narrow (ty0 k) v = v) (hfit : fits (ty0 k) v = true) (hl : k < fs.length) (hdg : decode cc pc = .ok (.putfield index, 3))
    (kk : ∀ (H1 : Heap) (locs1 : List Loc), H1.size = H.size → va_P D cl (ws.set q0 (a, .inr (ci, fs.set k v))) H1 → va_S A H0 H1 locs1 → W p l e R s m args below meth c H1 locs1 cells slots Q (F0 m (pc + 3) ls rest)) : W p l e R s m args below meth c H locs cells slots Q (F0 m pc ls (v :: .ref a :: rest)) := by
  have hap := va_apart (own := own) hts hin ty0 hty hnm hK hc
  obtain ⟨r, h1, cell, q1, q2, q3, q4⟩ := hP q0 _ he
  have hr : r = (C, T, N) := Option.some.inj (h1.symm.trans hc)
  subst hr
  obtain ⟨hS, hfc, kC, hkC, hkind⟩ := hK.1 ci _ hc
  obtain ⟨cf, kf, fi, f, hi, hsl⟩ := hS k hk
  have hi2 : s.fieldFound? C (T k).2.1 (T k).2.2.1 = some (cf, kf, fi, f) := by rw [← hdc]; exact hi
  have hlay := hts _ (hin _ (u_in_lay hk))
  unfold u_lay at hlay
  rw [if_pos hfin] at hlay
  have hst := (u_facts hfc hkC (u_lays hts hin hk) hi).1
  have hcf : m.cls = cf := by
    obtain ⟨_, _, c', _, _, _, -, -, hf', -, -, -, hown2, -⟩ := Cond.laysFinal_spec hlay
    have e1 : c' = cf := by have := hi.symm.trans hf'; simp at this; exact this.1.symm
    rw [hdc, hdecl] at hown2
    rw [← e1]; exact Option.some.inj (hown.symm.trans hown2)
  have h6 := u_fits hfc hkC hkind (Or.inr hlay) hi (hty k hk) hn hfit
  refine W.putFinK hexec hb hown hlink hi2 hst hcf hin2 (by rw [q2]; exact h6) q1 q3 (by rw [hsl]; exact k2_hasslot (q4 k hk)) rfl rfl hdg fun H' e1 e2 e3 => ?_
  rw [hsl] at e1 ⊢
  exact kk H' _ e2 (hP.set hD he ⟨_, hc, t_OB.to (V := updV (vp_V fs) k v) ⟨_, e1, q2, q3, t_set q4 hap hk v⟩ (fun j _ => vp_updV_set hl v j)⟩ e3) (hS0.put e2 e3 (hD.2 q0 _ he))
theorem qc_iastW (hexec : p.tables.exec = Jvm.exec) (hb : c.code = cc) (hK : va_K D cl tys s) (hP : va_P D cl ws H) (hD : va_D A ws) (hS : va_S A H0 H locs) (q0 t0 : Nat) {cA : ClassId} {n : Nat} {f : Nat → Int32} (ha : ws[q0]? = some (a, .inl (cA, n, .inl f))) (ht : tys[t0]? = some (cA, .int)) {i : Int32} {x : Int32} (hin : vp_in i n) (hdg : decode cc pc = .ok (.iastore, 1))
    (kk : ∀ (H1 : Heap) (locs1 : List Loc), H1.size = H.size → va_P D cl (ws.set q0 (a, .inl (cA, n, .inl (upd f i.toNatClampNeg x)))) H1 → va_S A H0 H1 locs1 → W p l e R s m args below meth c H1 locs1 cells slots Q (F0 m (pc + 1) ls rest)) : W p l e R s m args below meth c H locs cells slots Q (F0 m pc ls (.int x :: .int i :: .ref a :: rest)) := by
  refine W.iast hexec hb (hP q0 _ ha) ((hK.2 t0 _ ht).1 n (fun j => .int (f j))) (fun q => by cases q) (by show ¬ (i < 0 ∨ (arrV _ _ _).slots.size ≤ _); rw [arrV_size]; exact hin) rfl rfl hdg fun H1 e z oq => ?_
  refine kk H1 _ z (hP.set hD ha ?_ oq) (hS.put z oq (hD.2 q0 _ ha))
  show H1[a]? = some (vp_cell _ _)
  rw [e, vp_cell_i, vp_cell_i, arrV_store]
  congr 2
  funext q
  by_cases hq : q = i.toNatClampNeg
  · subst hq
    simp [updV, upd]
  · simp [updV, upd, hq]
theorem qc_lastW (hexec : p.tables.exec = Jvm.exec) (hb : c.code = cc) (hK : va_K D cl tys s) (hP : va_P D cl ws H) (hD : va_D A ws) (hS : va_S A H0 H locs) (q0 t0 : Nat) {cA : ClassId} {n : Nat} {f : Nat → Int64} (ha : ws[q0]? = some (a, .inl (cA, n, .inr (.inl (f))))) (ht : tys[t0]? = some (cA, .long)) {i : Int32} {x : Int64} (hin : vp_in i n) (hdg : decode cc pc = .ok (.lastore, 1))
    (kk : ∀ (H1 : Heap) (locs1 : List Loc), H1.size = H.size → va_P D cl (ws.set q0 (a, .inl (cA, n, .inr (.inl ((vp_updL f i.toNatClampNeg x)))))) H1 → va_S A H0 H1 locs1 → W p l e R s m args below meth c H1 locs1 cells slots Q (F0 m (pc + 1) ls rest)) : W p l e R s m args below meth c H locs cells slots Q (F0 m pc ls (.long x :: .int i :: .ref a :: rest)) := by
  refine W.last hexec hb (hP q0 _ ha) ((hK.2 t0 _ ht).1 n (fun j => .long (f j))) (fun q => by cases q) (by show ¬ (i < 0 ∨ (arrV _ _ _).slots.size ≤ _); rw [arrV_size]; exact hin) rfl rfl hdg fun H1 e z oq => ?_
  refine kk H1 _ z (hP.set hD ha ?_ oq) (hS.put z oq (hD.2 q0 _ ha))
  show H1[a]? = some (vp_cell _ _)
  rw [e, vp_cell_l, vp_cell_l, arrV_store]
  congr 2
  funext q
  by_cases hq : q = i.toNatClampNeg
  · subst hq
    simp [updV, vp_updL]
  · simp [updV, vp_updL, hq]
theorem qc_dastW (hexec : p.tables.exec = Jvm.exec) (hb : c.code = cc) (hK : va_K D cl tys s) (hP : va_P D cl ws H) (hD : va_D A ws) (hS : va_S A H0 H locs) (q0 t0 : Nat) {cA : ClassId} {n : Nat} {f : Nat → UInt64} (ha : ws[q0]? = some (a, .inl (cA, n, .inr (.inr (.inr (.inl (f))))))) (ht : tys[t0]? = some (cA, .double)) {i : Int32} {x : UInt64} (hin : vp_in i n) (hdg : decode cc pc = .ok (.dastore, 1))
    (kk : ∀ (H1 : Heap) (locs1 : List Loc), H1.size = H.size → va_P D cl (ws.set q0 (a, .inl (cA, n, .inr (.inr (.inr (.inl ((vf_upd f i.toNatClampNeg x)))))))) H1 → va_S A H0 H1 locs1 → W p l e R s m args below meth c H1 locs1 cells slots Q (F0 m (pc + 1) ls rest)) : W p l e R s m args below meth c H locs cells slots Q (F0 m pc ls (.double x :: .int i :: .ref a :: rest)) := by
  refine W.dast hexec hb (hP q0 _ ha) ((hK.2 t0 _ ht).1 n (fun j => .double (f j))) (fun q => by cases q) (by show ¬ (i < 0 ∨ (arrV _ _ _).slots.size ≤ _); rw [arrV_size]; exact hin) rfl rfl hdg fun H1 e z oq => ?_
  refine kk H1 _ z (hP.set hD ha ?_ oq) (hS.put z oq (hD.2 q0 _ ha))
  show H1[a]? = some (vp_cell _ _)
  rw [e, vp_cell_d, vp_cell_d, arrV_store]
  congr 2
  funext q
  by_cases hq : q = i.toNatClampNeg
  · subst hq
    simp [updV, vf_upd]
  · simp [updV, vf_upd, hq]
end QCS
def qc_u {α : Type} (f : Nat → Nat → α) (a k : Nat) (x : α) : Nat → Nat → α := fun b j => if b = a then (if j = k then x else f b j) else f b j
theorem qc_u_off {α : Type} (f : Nat → Nat → α) {a k b : Nat} (x : α) (h : b ≠ a) : qc_u f a k x b = f b := by funext j; simp [qc_u, h]
theorem qc_u_on {α : Type} (f : Nat → Nat → α) (a k : Nat) (x : α) : qc_u f a k x a = fun j => if j = k then x else f a j := by funext j; simp [qc_u]
theorem qc_u_at {α : Type} (f : Nat → Nat → α) (a k : Nat) (x : α) : qc_u f a k x a k = x := by simp [qc_u]
theorem qc_u_ne {α : Type} (f : Nat → Nat → α) {a k b j : Nat} (x : α) (h : b ≠ a ∨ j ≠ k) : qc_u f a k x b j = f b j := by
  rcases h with h | h <;> simp [qc_u, h]
theorem qc_fv_off (f : Nat → Nat) (I : Nat → Nat → Int32) (L : Nat → Nat → Int64) (D : Nat → Nat → UInt64) (R : Nat → Nat → Nat) (I' : Nat → Nat → Int32) (L' : Nat → Nat → Int64) (D' : Nat → Nat → UInt64) (R' : Nat → Nat → Nat) {b : Nat} (h1 : I' b = I b) (h2 : L' b = L b) (h3 : D' b = D b) (h4 : R' b = R b) (g : qcG) (kd ln : Nat) : qc_cell g kd ln (I', L', D', R') b = qc_cell g kd ln (I, L, D, R) b := by
  unfold qc_cell qc_fv
  simp only [h1, h2, h3, h4]
theorem qc_cellO (g : qcG) (ln : Nat) (M : qcM) (a : Nat) {ci : Nat} (h : ci < 11) : qc_cell g ci ln M a = .inr (ci, (List.range (qc_nf ci)).map (fun k => qc_fv g.2.2.1 M a k (qc_tc ci k))) := by
  unfold qc_cell
  split <;> first | omega | rfl
/-- the cell a is an object of class ci -/
def qc_ki (w : qcW) (a ci : Nat) : Prop := ci < 11 ∧ 256 ≤ a ∧ a < w.1 ∧ (w.2.1 a = ci ∨ (a < qcNF ∧ qc_kd a = ci))
/-- the cell a is a row of kind kd, of n places -/
def qc_ka (w : qcW) (a kd n : Nat) : Prop := 256 ≤ a ∧ a < w.1 ∧ ((w.2.1 a = kd ∧ w.2.2 a = n) ∨ (a < qcNF ∧ qc_kd a = kd ∧ qc_ln a = n))
theorem qc_kf {w : qcW} {a NL ci : Nat} (hn : NL ≤ w.1) (h : (Nat.ble 256 a && Nat.blt a NL && Nat.ble NL qcNF && Nat.beq (qc_kd a) ci && Nat.blt ci 11) = true) : qc_ki w a ci := by
  simp only [Bool.and_eq_true] at h
  obtain ⟨⟨⟨⟨h1, h2⟩, h3⟩, h4⟩, h5⟩ := h
  have h1 := Nat.le_of_ble_eq_true h1
  have h2 : a < NL := Nat.le_of_ble_eq_true h2
  have h3 := Nat.le_of_ble_eq_true h3
  exact ⟨Nat.le_of_ble_eq_true h5, h1, by omega, Or.inr ⟨by omega, Nat.eq_of_beq_eq_true h4⟩⟩
theorem qc_kfa {w : qcW} {a NL kd n : Nat} (hn : NL ≤ w.1) (h : (Nat.ble 256 a && Nat.blt a NL && Nat.ble NL qcNF && Nat.beq (qc_kd a) kd && Nat.beq (qc_ln a) n) = true) : qc_ka w a kd n := by
  simp only [Bool.and_eq_true] at h
  obtain ⟨⟨⟨⟨h1, h2⟩, h3⟩, h4⟩, h5⟩ := h
  have h1 := Nat.le_of_ble_eq_true h1
  have h2 : a < NL := Nat.le_of_ble_eq_true h2
  have h3 := Nat.le_of_ble_eq_true h3
  exact ⟨h1, by omega, Or.inr ⟨by omega, Nat.eq_of_beq_eq_true h4, Nat.eq_of_beq_eq_true h5⟩⟩
theorem qc_ki.get {g : qcG} {w : qcW} {M : qcM} {s : State} {H : Heap} {a ci : Nat} (h : qc_ki w a ci) (D : qc_WD g w M s H) : (qc_wl g w M)[a - 256]? = some (g.2.2.1 a, .inr (ci, (List.range (qc_nf ci)).map (fun k => qc_fv g.2.2.1 M a k (qc_tc ci k)))) := by
  obtain ⟨h1, h2, h3, h4⟩ := h
  have hk : w.2.1 a = ci := by
    rcases h4 with h4 | ⟨h5, h6⟩
    · exact h4
    · rw [(D.2.2.2.2.2.1 a h3 h2 h5).1]; exact h6
  rw [qc_wl_get g w M h2 h3, D.2.2.1 a h2, hk, qc_cellO g _ M a h1]
theorem qc_ka.get {g : qcG} {w : qcW} {M : qcM} {s : State} {H : Heap} {a kd n : Nat} (h : qc_ka w a kd n) (D : qc_WD g w M s H) : (qc_wl g w M)[a - 256]? = some (g.2.2.1 a, qc_cell g kd n M a) := by
  obtain ⟨h2, h3, h4⟩ := h
  have hk : w.2.1 a = kd ∧ w.2.2 a = n := by
    rcases h4 with h4 | ⟨h5, h6⟩
    · exact h4
    · rw [(D.2.2.2.2.2.1 a h3 h2 h5).1, (D.2.2.2.2.2.1 a h3 h2 h5).2]; exact h6
  rw [qc_wl_get g w M h2 h3, D.2.2.1 a h2, hk.1, hk.2]
theorem qc_fs_get (f : Nat → Nat) (M : qcM) (a ci : Nat) {k : Nat} (hk : k < qc_nf ci) : ((List.range (qc_nf ci)).map (fun k => qc_fv f M a k (qc_tc ci k)))[k]? = some (qc_fv f M a k (qc_tc ci k)) := by
  rw [List.getElem?_map, List.getElem?_range hk]
  rfl
theorem qc_fs_set (f : Nat → Nat) (M M' : qcM) (a ci : Nat) {k : Nat} {v : Value} (hk : k < qc_nf ci) (h1 : qc_fv f M' a k (qc_tc ci k) = v) (h2 : ∀ j, j ≠ k → qc_fv f M' a j (qc_tc ci j) = qc_fv f M a j (qc_tc ci j)) : ((List.range (qc_nf ci)).map (fun k => qc_fv f M a k (qc_tc ci k))).set k v = (List.range (qc_nf ci)).map (fun k => qc_fv f M' a k (qc_tc ci k)) := by
  apply List.ext_getElem?
  intro j
  by_cases hj : j = k
  · subst hj
    rw [List.getElem?_set_self (by simpa using hk), qc_fs_get f M' a ci hk, h1]
  · rw [List.getElem?_set_ne (Ne.symm hj), List.getElem?_map, List.getElem?_map]
    by_cases hl : j < qc_nf ci
    · rw [List.getElem?_range hl]
      simp only [Option.map_some]
      rw [h2 j hj]
    · rw [List.getElem?_eq_none (by simpa using hl)]
      rfl
theorem qc_SW.both {g : qcG} {s : State} {H H1 : Heap} {locs locs1 : List Loc} (h : qc_SW g s H) (hb : g.2.2.2 ≤ s.heap.size) (hS : va_S (qc_own g) s.heap H locs) (hS1 : va_S (qc_own g) s.heap H1 locs1) : qc_SW g s H1 := by
  refine h.kept (fun a _ hA => ?_)
  have ha : a < s.heap.size := by
    have h3 : ¬ g.2.2.2 ≤ a := hA
    omega
  rw [hS1.2.1 a ha hA, hS.2.1 a ha hA]
/-- the world after a store into the cell a -/
theorem qc_WD.put {g : qcG} {w : qcW} {M M' : qcM} {s : State} {H H1 : Heap} {a : Nat} {he : va_E} {locs locs1 : List Loc} (D : qc_WD g w M s H ∧ g.2.2.2 ≤ s.heap.size) (h0 : 256 ≤ a) (h1 : a < w.1) (hz : H1.size = H.size) (hP : va_P g.1 qcCl ((qc_wl g w M).set (a - 256) (g.2.2.1 a, he)) H1) (hS1 : va_S (qc_own g) s.heap H1 locs1) (hS : va_S (qc_own g) s.heap H locs)
    (hc : qc_cell g (w.2.1 a) (w.2.2 a) M' a = he) (ho : ∀ b, b ≠ a → qc_cell g (w.2.1 b) (w.2.2 b) M' b = qc_cell g (w.2.1 b) (w.2.2 b) M b) : qc_WD g w M' s H1 ∧ g.2.2.2 ≤ s.heap.size := by
  obtain ⟨⟨d1, d2, d3, d4, d5, d6, d7⟩, d8⟩ := D
  refine ⟨⟨d1, by rw [hz]; exact d2, d3, ?_, d5, d6, d7.both d8 hS hS1⟩, d8⟩
  rw [d3 a h0, qc_wl_set g w M M' h0 h1 he hc ho] at hP
  exact hP
