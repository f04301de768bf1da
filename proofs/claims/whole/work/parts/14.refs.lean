/-! rows of references -/
section QCS2
variable {p : Program} {l : Launch} {e : Env} {R : Room} {s : State} {m : MethodId} {args : Array Value} {below : List Frame} {meth : Method} {c : Code} {H : Heap} {locs : List Loc} {cells slots : Nat} {Q : State → Prop}
variable {cc : ByteArray} {pc : Nat} {ls : Array Slot} {rest : List Value} {D : va_G} {cl : List vw_C} {A : Nat → Prop} {a : Nat} {tys : List (ClassId × FieldType)} {ws : va_W} {H0 : Heap}
theorem qc_aastW (hexec : p.tables.exec = Jvm.exec) (hb : c.code = cc) (hK : va_K D cl tys s) (hP : va_P D cl ws H) (hD : va_D A ws) (hS : va_S A H0 H locs) (q0 t0 qk ci : Nat) {cA : ClassId} {r : vw_C} {n v : Nat} {vs : List Value} {f : Nat → Option Nat} (ha : ws[q0]? = some (a, .inl (cA, n, .inr (.inr (.inr (.inr f)))))) (ht : tys[t0]? = some (cA, .object r.1)) (hv : ws[qk]? = some (v, .inr (ci, vs))) (hc : cl[ci]? = some r) {i : Int32} (hin : vp_in i n) (hdg : decode cc pc = .ok (.aastore, 1))
    (kk : ∀ (H1 : Heap) (locs1 : List Loc), H1.size = H.size → va_P D cl (ws.set q0 (a, .inl (cA, n, .inr (.inr (.inr (.inr (va_up f i.toNatClampNeg (some v)))))))) H1 → va_S A H0 H1 locs1 → W p l e R s m args below meth c H1 locs1 cells slots Q (F0 m (pc + 1) ls rest)) : W p l e R s m args below meth c H locs cells slots Q (F0 m pc ls (.ref v :: .int i :: .ref a :: rest)) := by
  have hlt : i.toNatClampNeg < n := Nat.not_le.mp fun q => hin (Or.inr q)
  have h0 : ¬ i < 0 := fun q => hin (Or.inl q)
  obtain ⟨r', hr', cellV, g1, g2, g3, -⟩ := hP qk _ hv
  have hcls := (hK.1 ci r hc).2
  obtain ⟨kA, comp, k1, k2, k3, -⟩ := (hK.2 t0 _ ht).2
  have hcomp : comp = D.1 ci := Option.some.inj (k3.symm.trans hcls.1)
  subst hcomp
  obtain ⟨kC, hkC, -⟩ := hcls.2
  refine W.aast hexec hb (hP q0 _ ha) (fun q h => by cases h) (fun h => by cases h) k1 k2 rfl hkC ⟨h0, by show _ < (arrV _ _ _).slots.size; rw [arrV_size]; exact hlt⟩ g1 (fun q h => by rw [g3] at h; cases h) (by rw [g2]; exact hkC) (by rw [g2]; exact va_assign hcls) rfl rfl hdg fun H1 e z oq => ?_
  refine kk H1 _ z (hP.set hD ha ?_ oq) (hS.put z oq (hD.2 q0 _ ha))
  show H1[a]? = some (vp_cell _ _)
  rw [e, vp_cell_q, vp_cell_q, arrV_store]
  congr 2
  funext q
  by_cases hq : q = i.toNatClampNeg
  · subst hq
    simp [updV, va_up, va_rf]
  · simp [updV, va_up, hq]
theorem qc_aastNW (hexec : p.tables.exec = Jvm.exec) (hb : c.code = cc) (hK : va_K D cl tys s) (hP : va_P D cl ws H) (hD : va_D A ws) (hS : va_S A H0 H locs) (q0 t0 : Nat) {cA : ClassId} {C : String} {n : Nat} {f : Nat → Option Nat} (ha : ws[q0]? = some (a, .inl (cA, n, .inr (.inr (.inr (.inr f)))))) (ht : tys[t0]? = some (cA, .object C)) {i : Int32} (hin : vp_in i n) (hdg : decode cc pc = .ok (.aastore, 1))
    (kk : ∀ (H1 : Heap) (locs1 : List Loc), H1.size = H.size → va_P D cl (ws.set q0 (a, .inl (cA, n, .inr (.inr (.inr (.inr (va_up f i.toNatClampNeg none))))))) H1 → va_S A H0 H1 locs1 → W p l e R s m args below meth c H1 locs1 cells slots Q (F0 m (pc + 1) ls rest)) : W p l e R s m args below meth c H locs cells slots Q (F0 m pc ls (.null :: .int i :: .ref a :: rest)) := by
  refine va_WaastN (C := C) hexec hb (hP q0 _ ha) ((hK.2 t0 _ ht).1 n (fun j => va_rf (f j))) (fun h => by cases h) (by show ¬ (i < 0 ∨ (arrV _ _ _).slots.size ≤ _); rw [arrV_size]; exact hin) rfl rfl hdg fun H1 e z oq => ?_
  refine kk H1 _ z (hP.set hD ha ?_ oq) (hS.put z oq (hD.2 q0 _ ha))
  show H1[a]? = some (vp_cell _ _)
  rw [e, vp_cell_q, vp_cell_q, arrV_store]
  congr 2
  funext q
  by_cases hq : q = i.toNatClampNeg
  · subst hq
    simp [updV, va_up, va_rf]
  · simp [updV, va_up, hq]
end QCS2
section QCA2
variable {R0 : Room} {mi : qcI} {QQ : qcQ} {cu su : Nat} {w : qcW} {pc pc' : Nat} {lv : List (Nat × Value)} {st : List Value} {M M' : qcM} {a a0 b0 : Nat} {v : Value} {I : Nat → Nat → Int32} {L : Nat → Nat → Int64} {D : Nat → Nat → UInt64} {R : Nat → Nat → Nat} {NL : Nat}
theorem qc_ro_up (f : Nat → Nat) (R : Nat → Nat → Nat) (a k x : Nat) : (fun j => qc_ro f (qc_u R a k x a j)) = va_up (fun j => qc_ro f (R a j)) k (qc_ro f x) := by
  funext j
  unfold qc_u va_up
  rw [if_pos rfl]
  by_cases h : j = k
  · rw [if_pos h, if_pos h]
  · rw [if_neg h, if_neg h]
/-- a reference out of a row (kinds 103 and 104) -/
theorem qc_aald (t : Nat) (ht : t = 0 ∨ t = 1) {n b : Nat} {j : Int32} (hd : qc_d mi (pc, pc', .aaload, a0, b0, v)) (ha : qc_ka w a (103 + t) n) (hin : vp_in j n) (hr : R a j.toNatClampNeg = b) (hb : Nat.beq b 255 = false) (kk : qc_X R0 mi QQ cu su w (pc', lv, .ref b :: st, I, L, D, R)) : qc_X R0 mi QQ cu su w (pc, lv, .int j :: .ref a :: st, I, L, D, R) := by
  obtain ⟨rfl, hdg⟩ := hd.of (n := 0) rfl
  intro p l e s m args below meth c0 g H locs ls C W0 S L0
  have he := ha.get W0.1
  have k2 := kk p l e s m args below meth c0 g H locs ls C W0 S L0
  have e1 : va_rf (qc_ro g.2.2.1 (R a j.toNatClampNeg)) = qc_cv g.2.2.1 (.ref b) := by
    rw [qc_ro_rv, hr]
    unfold qc_rv
    rw [hb]
    rfl
  rcases ht with rfl | rfl
  · refine va_aldq C.1 C.2.1 W0.1.2.2.2.2.1 W0.1.2.2.2.1 (a - 256) 3 he rfl hin hdg ?_
    rw [e1]
    exact k2
  · refine va_aldq C.1 C.2.1 W0.1.2.2.2.2.1 W0.1.2.2.2.1 (a - 256) 4 he rfl hin hdg ?_
    rw [e1]
    exact k2
/-- a reference into a row; the object's kind is that of the row -/
theorem qc_aast (t ci : Nat) (ht : (t = 0 ∧ ci = 0) ∨ (t = 1 ∧ ci = 6)) {n x : Nat} {j : Int32} (hd : qc_d mi (pc, pc', .aastore, a0, b0, v)) (ha : qc_ka w a (103 + t) n) (hin : vp_in j n) (hx : qc_ki w x ci) (kk : qc_X R0 mi QQ cu su w (pc', lv, st, I, L, D, qc_u R a j.toNatClampNeg x)) : qc_X R0 mi QQ cu su w (pc, lv, .ref x :: .int j :: .ref a :: st, I, L, D, R) := by
  obtain ⟨rfl, hdg⟩ := hd.of (n := 0) rfl
  intro p l e s m args below meth c0 g H locs ls C W0 S L0
  have he := ha.get W0.1
  have hk := qc_kd_at ha W0.1
  have h0 := hx.1
  have hcl : qcCl[ci]? = some ((qc_clT ci).1, (qc_clT ci).2.1, qc_nf ci) := by rw [(qc_cl1 h0).1, ← (qc_cl1 h0).2]
  have hx2 : qc_ro g.2.2.1 x = some (g.2.2.1 x) := by
    unfold qc_ro
    rw [show Nat.beq x 255 = false from by
      cases hb : Nat.beq x 255 with
      | false => rfl
      | true => have := Nat.eq_of_beq_eq_true hb; have := hx.2.1; omega]
    rfl
  rcases ht with ⟨rfl, rfl⟩ | ⟨rfl, rfl⟩
  · refine qc_aastW C.1 C.2.1 W0.1.2.2.2.2.1 W0.1.2.2.2.1 (qc_D g w (I, L, D, R)) S (a - 256) 3 (x - 256) 0 he rfl (hx.get W0.1) hcl hin hdg (fun H1 locs1 hz hP hS => ?_)
    refine kk p l e s m args below meth c0 g H1 locs1 ls C (qc_WD.put W0 ha.1 ha.2.1 hz hP hS S ?_ (fun b hb => qc_fv_off id I L D R _ _ _ _ rfl rfl rfl (qc_u_off _ x hb) g _ _)) hS L0
    rw [hk.1, hk.2]
    unfold qc_cell
    simp only [qc_ro_up, hx2]
  · refine qc_aastW C.1 C.2.1 W0.1.2.2.2.2.1 W0.1.2.2.2.1 (qc_D g w (I, L, D, R)) S (a - 256) 4 (x - 256) 6 he rfl (hx.get W0.1) hcl hin hdg (fun H1 locs1 hz hP hS => ?_)
    refine kk p l e s m args below meth c0 g H1 locs1 ls C (qc_WD.put W0 ha.1 ha.2.1 hz hP hS S ?_ (fun b hb => qc_fv_off id I L D R _ _ _ _ rfl rfl rfl (qc_u_off _ x hb) g _ _)) hS L0
    rw [hk.1, hk.2]
    unfold qc_cell
    simp only [qc_ro_up, hx2]
theorem qc_aastN (t : Nat) (ht : t = 0 ∨ t = 1) {n : Nat} {j : Int32} (hd : qc_d mi (pc, pc', .aastore, a0, b0, v)) (ha : qc_ka w a (103 + t) n) (hin : vp_in j n) (kk : qc_X R0 mi QQ cu su w (pc', lv, st, I, L, D, qc_u R a j.toNatClampNeg 255)) : qc_X R0 mi QQ cu su w (pc, lv, .null :: .int j :: .ref a :: st, I, L, D, R) := by
  obtain ⟨rfl, hdg⟩ := hd.of (n := 0) rfl
  intro p l e s m args below meth c0 g H locs ls C W0 S L0
  have he := ha.get W0.1
  have hk := qc_kd_at ha W0.1
  have hx2 : qc_ro g.2.2.1 255 = none := rfl
  rcases ht with rfl | rfl
  · refine qc_aastNW C.1 C.2.1 W0.1.2.2.2.2.1 W0.1.2.2.2.1 (qc_D g w (I, L, D, R)) S (a - 256) 3 he rfl hin hdg (fun H1 locs1 hz hP hS => ?_)
    refine kk p l e s m args below meth c0 g H1 locs1 ls C (qc_WD.put W0 ha.1 ha.2.1 hz hP hS S ?_ (fun b hb => qc_fv_off id I L D R _ _ _ _ rfl rfl rfl (qc_u_off _ 255 hb) g _ _)) hS L0
    rw [hk.1, hk.2]
    unfold qc_cell
    simp only [qc_ro_up, hx2]
  · refine qc_aastNW C.1 C.2.1 W0.1.2.2.2.2.1 W0.1.2.2.2.1 (qc_D g w (I, L, D, R)) S (a - 256) 4 he rfl hin hdg (fun H1 locs1 hz hP hS => ?_)
    refine kk p l e s m args below meth c0 g H1 locs1 ls C (qc_WD.put W0 ha.1 ha.2.1 hz hP hS S ?_ (fun b hb => qc_fv_off id I L D R _ _ _ _ rfl rfl rfl (qc_u_off _ 255 hb) g _ _)) hS L0
    rw [hk.1, hk.2]
    unfold qc_cell
    simp only [qc_ro_up, hx2]
/-- how long a row is -/
theorem qc_alen (kd : Nat) (hkd : kd = 100 ∨ kd = 101 ∨ kd = 102) {n : Nat} (hd : qc_d mi (pc, pc', .arraylength, a0, b0, v)) (ha : qc_ka w a kd n) (kk : qc_X R0 mi QQ cu su w (pc', lv, .int (nI n) :: st, M)) : qc_X R0 mi QQ cu su w (pc, lv, .ref a :: st, M) := by
  obtain ⟨rfl, hdg⟩ := hd.of (n := 0) rfl
  intro p l e s m args below meth c0 g H locs ls C W0 S L0
  have he := ha.get W0.1
  have k2 := kk p l e s m args below meth c0 g H locs ls C W0 S L0
  rcases hkd with rfl | rfl | rfl
  · exact va_alen C.1 C.2.1 W0.1.2.2.2.2.1 W0.1.2.2.2.1 (a - 256) 0 he rfl rfl hdg k2
  · exact va_alen C.1 C.2.1 W0.1.2.2.2.2.1 W0.1.2.2.2.1 (a - 256) 1 he rfl rfl hdg k2
  · exact va_alen C.1 C.2.1 W0.1.2.2.2.2.1 W0.1.2.2.2.1 (a - 256) 2 he rfl rfl hdg k2
end QCA2
