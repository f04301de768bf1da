/-! the reference reads as the spec does: cells, functions -/
theorem fn_sz (m : Nat) (x : qDen) : (qs_fn m x).2.2.1 = x.2.2.1 + 1 := by
  unfold qs_fn
  repeat' split
  all_goals rfl
section
variable {w : qcW} {I I0 : qTI} {L L0 : qTL} {D D0 : qTD} {R : qTR} {b ln : Nat → Nat} {len q o N n : Nat} {τ : Option (Nat × Nat)} {st : qP} {J : qJs} {P : List Nat} {F : qFs} {ds : List qDen} {x1 x3 : Int32} {f : Nat × Nat × Int32 × Nat × Int32}
theorem mr_calledE {e : Nat × Nat} (h : mR b q I0 L0 D0 (some e) st o J P F ds I L D) {x y : Nat} (hx : x < 420) (hy : y < 420) (f : Int32) : fX12_called w I L D R f (nI x) (nI y) = some (0, I, L, D, R) := by
  have hn := fun a1 a2 a3 a4 a5 a6 => mr_nodeE (w := w) (R := R) h a1 a2 a3 a4 a5 a6
  have hl : ∀ u v : Int32, ∃ r, fX12_later w I L D R u v = some (r, I, L, D, R) := fun u v => by
    unfold fX12_later
    split
    · exact ⟨_, rfl⟩
    · exact ⟨_, rfl⟩
  unfold fX12_called fX12_called_b65 fX12_called_b95 fX12_called_b99 fX12_called_b118 fX12_called_b174
  simp only [qi_inbN hx (by decide : 420 < 2 ^ 31), qi_inbN hy (by decide : 420 < 2 ^ 31), qc_gdt, hn, qc_bds]
  obtain ⟨r, hr⟩ := hl (I 303 (nI x).toNatClampNeg) (I 303 (nI y).toNatClampNeg)
  simp only [hr, qc_bds, hn]
  repeat' split
  all_goals rfl
theorem mr_called (h : mR b q I0 L0 D0 none st o J P F ds I L D) {m x y nr : Nat} {dx dy dd : qDen} (hm : 22 ≤ m ∧ m ≤ 35) (hx : ds[x]? = some dx) (hy : ds[y]? = some dy) (hxy : ¬ (m = 27 ∨ m = 28) → x = y) (hdd : dd = if m = 27 ∨ m = 28 then qs_fn2 m dx dy else qs_fn m dy) (hD : qs_D nr dd) (hz : dd.2.2.1 ≤ 400) (h0 : dy.1 ≠ 0) (hd : ds.length < 420) (hP : P.length < 420) :
    ∃ I' I'' : qTI, fX12_called w I L D R (nI (m - 22)) (nI x) (nI y) = some (nI ds.length, I', L, D, R) ∧ fX12_lay w I' L D R (nI ds.length) = some ((), I'', L, D, R) ∧ mR b q I0 L0 D0 none st o J (ds.length :: P) F (ds ++ [dd]) I'' L D := by
  obtain ⟨nx1, nx2, nx3, nx4, nx5⟩ := mR_n h hx
  obtain ⟨ny1, ny2, ny3, ny4, ny5⟩ := mR_n h hy
  have hx4 : x < 420 := by omega
  have hy4 : y < 420 := by omega
  have lx : (ds ++ [dd])[x]? = some dx := ds_up hx
  have ly : (ds ++ [dd])[y]? = some dy := ds_up hy
  unfold fX12_called
  rw [qi_inbN hx4 (by decide), qc_gdt, nI_clamp (by omega), nx1]
  by_cases c2 : m = 27 ∨ m = 28
  · rw [if_pos c2] at hdd
    have hneed : ∀ I' : qTI, I' 304 = I 304 → fX12_needOf w I' L D R 5 (nI x) (nI y) 0 = some (nI dd.2.1, I', L, D, R) := fun I' e => by
      rw [hdd]; exact nd_2 (w := w) (d := dx) (f := dy) I' hx4 hy4 (by rw [e]; exact nx2) (by rw [e]; exact ny2) nx4 ny4
    have hko : qs_ko (max dx.1 dy.1) = max dx.1 dy.1 := by unfold qs_ko; omega
    have go : ∀ v, v = 1750 + 10 * (m - 27) → ∃ I' I'' : qTI, fX12_called_b118 w I L D R (nI y) (nI dx.1) (nI v) 0 (nI y) (nI x) 5 = some (nI ds.length, I', L, D, R) ∧ fX12_lay w I' L D R (nI ds.length) = some ((), I'', L, D, R) ∧ mR b q I0 L0 D0 none st o J (ds.length :: P) F (ds ++ [dd]) I'' L D := fun v hv => by
      obtain ⟨I1, I2, n1, n2, n3⟩ := mr_nl (w := w) (R := R) h (d := dd) (x1 := 5) (x2 := nI x) (x3 := nI y) (x4 := 0) (x5 := nI v) (x6 := nI (max dx.1 dy.1)) hd hP hD hz (by rw [hdd]; rfl) hneed (fun T t1 t2 t3 t4 t5 t6 => ⟨t6, Or.inr (Or.inr (Or.inr (Or.inr (Or.inr (Or.inl ⟨x, y, dx, dy, v, t2, t3, t5, nx5, ny5, lx, ly, Or.inl ⟨t1, by omega, by rw [hdd, hko, hv]; rfl⟩⟩)))))⟩)
      refine ⟨I1, I2, ?_, n2, n3⟩
      unfold fX12_called_b118
      rw [qi_inbN hy4 (by decide), qc_gdt, nI_clamp (by omega), ny1, mq_later nx3 ny3, qc_bds, n1, qc_bds]
    rcases c2 with c2 | c2
    · subst c2
      exact go 1750 rfl
    · subst c2
      exact go 1760 rfl
  · have hxe := hxy c2
    subst hxe
    have hde : dx = dy := Option.some.inj (hx.symm.trans hy)
    subst hde
    rw [if_neg c2] at hdd
    have h1 : ∀ I' : qTI, I' 304 = I 304 → fX12_needOf_b150 w I' L D R (nI x) = some (nI dx.2.1, I', L, D, R) := fun I' e => nd_1 (w := w) (d := dx) I' hx4 (by rw [e]; exact nx2)
    have go : ∀ (k1 : Int32) (v k6 : Nat), (∀ I' : qTI, I' 304 = I 304 → fX12_needOf w I' L D R k1 (nI x) 0 0 = some (nI dd.2.1, I', L, D, R)) → k6 = dd.1 → (∀ T : qTI, T 298 ds.length = k1 → ((T 298 ds.length = 8 ∧ dd = d_un dx.1 dx.1 [(1200 + dx.1, 0)] dx) ∨ (T 298 ds.length = 9 ∧ dd = d_un dx.1 dx.1 [(1300 + dx.1, 0)] dx) ∨ (T 298 ds.length = 12 ∧ dd = d_un 0 dx.1 [(1810, 0)] dx) ∨ (T 298 ds.length = 14 ∧ dd = d_un dx.1 dx.1 [(1700 + dx.1, 0)] dx) ∨ (T 298 ds.length = 15 ∧ v ≤ 3 ∧ dd = d_un 4 4 [(1704 + 10 * v, 0)] dx) ∨ (T 298 ds.length = 16 ∧ dd = d_un dd.1 dd.1 [(1740 + dd.1, 0)] dx) ∨ (T 298 ds.length = 17 ∧ v ≤ 7 ∧ dd = d_un (qs_ck v) (qs_ck v) (if v < 4 then [(1650 + v, 0)] else []) dx))) → ∃ I' I'' : qTI, (qc_bd (fX12_node w I L D R k1 (nI x) 0 0 (nI v) (nI k6)) fun r1 I1 L1 D1 R1 => some (r1, I1, L1, D1, R1)) = some (nI ds.length, I', L, D, R) ∧ fX12_lay w I' L D R (nI ds.length) = some ((), I'', L, D, R) ∧ mR b q I0 L0 D0 none st o J (ds.length :: P) F (ds ++ [dd]) I'' L D := fun k1 v k6 hn h6 hf => by
      obtain ⟨I1, I2, n1, n2, n3⟩ := mr_nl (w := w) (R := R) h (d := dd) (x1 := k1) (x2 := nI x) (x3 := 0) (x4 := 0) (x5 := nI v) (x6 := nI k6) hd hP hD hz (by rw [h6]) hn (fun T t1 t2 t3 t4 t5 t6 => ⟨t6, Or.inr (Or.inr (Or.inr (Or.inr (Or.inr (Or.inr (Or.inr ⟨x, dx, v, t2, t5, nx5, lx, hf T t1⟩))))))⟩)
      exact ⟨I1, I2, by rw [n1, qc_bds], n2, n3⟩
    rcases (show m = 22 ∨ m = 23 ∨ m = 24 ∨ m = 25 ∨ m = 26 ∨ m = 29 ∨ m = 30 ∨ m = 31 ∨ m = 32 ∨ m = 33 ∨ m = 34 ∨ m = 35 by omega) with z | z | z | z | z | z | z | z | z | z | z | z
    · subst z
      exact go 14 0 dx.1 (fun I' e => by rw [hdd]; exact h1 I' e) (by rw [hdd]; rfl) (fun T t => Or.inr (Or.inr (Or.inr (Or.inl ⟨t, hdd⟩))))
    · subst z
      exact go 15 1 4 (fun I' e => by rw [hdd]; exact h1 I' e) (by rw [hdd]; rfl) (fun T t => Or.inr (Or.inr (Or.inr (Or.inr (Or.inl ⟨t, by decide, hdd⟩)))))
    · subst z
      exact go 15 2 4 (fun I' e => by rw [hdd]; exact h1 I' e) (by rw [hdd]; rfl) (fun T t => Or.inr (Or.inr (Or.inr (Or.inr (Or.inl ⟨t, by decide, hdd⟩)))))
    · subst z
      exact go 15 3 4 (fun I' e => by rw [hdd]; exact h1 I' e) (by rw [hdd]; rfl) (fun T t => Or.inr (Or.inr (Or.inr (Or.inr (Or.inl ⟨t, by decide, hdd⟩)))))
    · subst z
      have e3 : nI dx.1 = 3 ↔ dx.1 = 3 := qi_nI_inj' (j := 3) (by omega) (by decide)
      have hq : qs_fn 26 dx = d_un (if dx.1 = 3 then 3 else 4) (if dx.1 = 3 then 3 else 4) [(1740 + (if dx.1 = 3 then 3 else 4), 0)] dx := rfl
      rw [hq] at hdd
      show ∃ I' I'' : qTI, (if nI dx.1 = (3 : Int32) then (fX12_called_b95 w I L D R (3 : Int32) (0 : Int32) (0 : Int32) (0 : Int32) (nI x) (16 : Int32)) else (fX12_called_b95 w I L D R (4 : Int32) (0 : Int32) (0 : Int32) (0 : Int32) (nI x) (16 : Int32))) = _ ∧ _ ∧ _
      by_cases y : dx.1 = 3
      · rw [if_pos (e3.mpr y)]
        exact go 16 0 3 (fun I' e => by rw [hdd]; exact h1 I' e) (by rw [hdd, if_pos y]; rfl) (fun T t => Or.inr (Or.inr (Or.inr (Or.inr (Or.inr (Or.inl ⟨t, by rw [hdd]; rfl⟩))))))
      · rw [if_neg (fun u => y (e3.mp u))]
        exact go 16 0 4 (fun I' e => by rw [hdd]; exact h1 I' e) (by rw [hdd, if_neg y]; rfl) (fun T t => Or.inr (Or.inr (Or.inr (Or.inr (Or.inr (Or.inl ⟨t, by rw [hdd]; rfl⟩))))))
    · subst z
      exact go 17 1 1 (fun I' e => by rw [hdd]; exact h1 I' e) (by rw [hdd]; rfl) (fun T t => Or.inr (Or.inr (Or.inr (Or.inr (Or.inr (Or.inr ⟨t, by decide, hdd⟩))))))
    · subst z
      exact go 17 2 1 (fun I' e => by rw [hdd]; exact h1 I' e) (by rw [hdd]; rfl) (fun T t => Or.inr (Or.inr (Or.inr (Or.inr (Or.inr (Or.inr ⟨t, by decide, hdd⟩))))))
    · subst z
      exact go 17 3 1 (fun I' e => by rw [hdd]; exact h1 I' e) (by rw [hdd]; rfl) (fun T t => Or.inr (Or.inr (Or.inr (Or.inr (Or.inr (Or.inr ⟨t, by decide, hdd⟩))))))
    · subst z
      exact go 17 4 1 (fun I' e => by rw [hdd]; exact h1 I' e) (by rw [hdd]; rfl) (fun T t => Or.inr (Or.inr (Or.inr (Or.inr (Or.inr (Or.inr ⟨t, by decide, hdd⟩))))))
    · subst z
      exact go 17 5 2 (fun I' e => by rw [hdd]; exact h1 I' e) (by rw [hdd]; rfl) (fun T t => Or.inr (Or.inr (Or.inr (Or.inr (Or.inr (Or.inr ⟨t, by decide, hdd⟩))))))
    · subst z
      exact go 17 6 3 (fun I' e => by rw [hdd]; exact h1 I' e) (by rw [hdd]; rfl) (fun T t => Or.inr (Or.inr (Or.inr (Or.inr (Or.inr (Or.inr ⟨t, by decide, hdd⟩))))))
    · subst z
      exact go 17 7 4 (fun I' e => by rw [hdd]; exact h1 I' e) (by rw [hdd]; rfl) (fun T t => Or.inr (Or.inr (Or.inr (Or.inr (Or.inr (Or.inr ⟨t, by decide, hdd⟩))))))
/-- fn ( .. ): the end -/
theorem me_fn (hb : qt_B b len) (hS : mS b ln len q I0) {n' m x y at_ : Nat} {B : Int32} {dx dy dd : qDen} (h : mR b q I0 L0 D0 none st (o + 1) J (y :: P) ((3, J.length, nI at_, m - 22, B) :: F) ds I L D) (hG : mG b len st (o + 1) J (y :: P) ((3, J.length, nI at_, m - 22, B) :: F) ds (N + 1)) (hn : J.length + F.length + 1 < n') (hm : 22 ≤ m ∧ m ≤ 35) (hx : ds[x]? = some dx) (hy : ds[y]? = some dy) (hB : (¬ (m = 27 ∨ m = 28) ∧ B = -1 ∧ x = y) ∨ ((m = 27 ∨ m = 28) ∧ B = nI x)) (hdd : dd = if m = 27 ∨ m = 28 then qs_fn2 m dx dy else qs_fn m dy)
    (hD : dx.1 ≠ 0 → dy.1 ≠ 0 → qs_D st.2.length dd) (hz : dd.2.2.1 ≤ 400) (st0 : qP) (hF1 : 1 ≤ F.length) (hFo : F.length ≤ o + 1) : mV b len q I0 L0 D0 R (K_o w R x1) o J P F ds (qs_b (qs_ex b 55 st) fun st5 => qs_fit (!(Nat.beq dx.1 0) && !(Nat.beq dy.1 0)) at_ <| .inr (dd, st5)) (K_e w R x1 N n' I L D st0) := by
  obtain ⟨g1, g2, g3, g4, g5, g6⟩ := mG_le hb hG
  rw [List.length_cons] at g2 g4
  obtain ⟨t1, t2, t3, t4, t5, t6, t7⟩ := mR_ft h (by omega)
  obtain ⟨n', rfl⟩ : ∃ k, n' = k + 2 := ⟨n' - 2, by omega⟩
  obtain ⟨N, rfl⟩ : ∃ k, N = k + 1 := ⟨N - 1, by omega⟩
  obtain ⟨u1, u2, u3⟩ := mr_taken (w := w) (R := R) h (by omega)
  obtain ⟨v1, v2, v3, v4, v5, v6, v7⟩ := mR_ft u2 (by omega)
  obtain ⟨I1, L1, D1, k1, k2, k3⟩ := mr_want (w := w) (R := R) (c := 41) (m := 55) (fun I L D m' h => ms_55 h) hb hS u2 (mG_st hG)
  have hxl := (List.getElem?_eq_some_iff.mp hx).1
  have hx4 : x < 420 := by omega
  have off : ∀ a, a ≠ 291 → (qc_u (qc_u I1 291 25 (I1 291 25 - 1)) 291 34 ((qc_u I1 291 25 (I1 291 25 - 1)) 291 34 - 1)) a = I1 a := fun a ha => by rw [qc_u_off _ _ ha, qc_u_off _ _ ha]
  -- up to )
  have he : ∀ {τ st'}, mR b q I0 L0 D0 τ st' (o + 1) J P ((3, J.length, nI at_, m - 22, B) :: F) ds I1 L1 D1 → fX12_ends w I L D R = qc_bd (fX12_endsFunction_b101 w (qc_u (qc_u I1 291 25 (I1 291 25 - 1)) 291 34 ((qc_u I1 291 25 (I1 291 25 - 1)) 291 34 - 1)) L1 D1 R (nI F.length) (nI (m - 22)) (nI y) (nI x)) fun r34 I34 L34 D34 R34 => if r34 = true then (some ((1 : Int32), I34, L34, D34, R34)) else (some ((0 : Int32), I34, L34, D34, R34)) := fun {τ st'} m1 => by
    obtain ⟨f1, f2, f3, f4, f5, f6, f7⟩ := mR_ft m1 (by omega)
    have e55 : fX12_endsFunction_b55 w (qc_u I 291 32 (nI P.length)) L D R (nI F.length) (nI (m - 22)) (nI y) = fX12_endsFunction_b101 w (qc_u (qc_u I1 291 25 (I1 291 25 - 1)) 291 34 ((qc_u I1 291 25 (I1 291 25 - 1)) 291 34 - 1)) L1 D1 R (nI F.length) (nI (m - 22)) (nI y) (nI x) := by
      unfold fX12_endsFunction_b55
      rw [k1, qc_bds, t6, qc_gdt, t7, off 314 (by decide), f5, qc_gdt]
      rcases hB with ⟨z1, z2, z3⟩ | ⟨z1, z2⟩
      · rw [if_pos z2, z3]
      · have z2 : (3, J.length, nI at_, m - 22, B).2.2.2.2 = nI x := z2
        rw [z2, if_neg (qi_nI_m1 (by omega))]
    have e30 : (m = 27 ∨ m = 28) → fX12_endsFunction_b30 w (qc_u I 291 32 (nI P.length)) L D R (nI F.length) (nI (m - 22)) (nI y) = fX12_endsFunction_b55 w (qc_u I 291 32 (nI P.length)) L D R (nI F.length) (nI (m - 22)) (nI y) := fun z => by
      unfold fX12_endsFunction_b30
      rcases hB with ⟨z1, z2, z3⟩ | ⟨z1, z2⟩
      · exact absurd z z1
      · have z2 : (3, J.length, nI at_, m - 22, B).2.2.2.2 = nI x := z2
        rw [t6, qc_gdt, t7, v5, z2, if_neg (qi_nI_m1 (by omega))]
    have e5 : nI (m - 22) = 5 ↔ m - 22 = 5 := qi_nI_inj' (j := 5) (by omega) (by decide)
    have e6 : nI (m - 22) = 6 ↔ m - 22 = 6 := qi_nI_inj' (j := 6) (by omega) (by decide)
    have t4 : I 313 F.length = nI (m - 22) := t4
    unfold fX12_ends
    rw [t1, t6, qc_gdt, t7, t2, if_neg (show ¬ nI 3 = 1 by decide), if_neg (show ¬ nI 3 = 2 by decide), if_pos (show nI 3 = 3 from rfl)]
    unfold fX12_endsFunction
    rw [t1, t6, qc_gdt, u1, qc_bds, t7, t4]
    by_cases z5 : m - 22 = 5
    · rw [if_pos (e5.mpr z5), e30 (by omega), e55]
    · rw [if_neg (fun u => z5 (e5.mp u))]
      by_cases z6 : m - 22 = 6
      · rw [if_pos (e6.mpr z6), e30 (by omega), e55]
      · rw [if_neg (fun u => z6 (e6.mp u)), e55]
  unfold K_e
  cases ha : qs_ex b 55 st with
  | inl e =>
    have m1 := k3 e ha
    have m2 := mR_od m1
    have he1 := he m1
    generalize (qc_u (qc_u I1 291 25 (I1 291 25 - 1)) 291 34 ((qc_u I1 291 25 (I1 291 25 - 1)) 291 34 - 1)) = G at he1 m2
    unfold fX12_endsFunction_b101 at he1
    rw [if_neg (mR_15e m2), qc_bds, if_pos rfl] at he1
    rw [e309 h (by rw [List.length_cons]; omega) he1]
    exact mV_e m2 (mE_309 m2 _)
  | inr st2 =>
    have m1 := k2 st2 ha
    have m2 := mR_od m1
    have he1 := he m1
    obtain ⟨f1, f2, f3, f4, f5, f6, f7⟩ := mR_ft m1 (by omega)
    obtain ⟨q1, q2, q3⟩ := qs_ex_n (by decide) hb hG.1 ha
    have g312 := (congrFun (off 312 (by decide)) F.length).trans f3
    obtain ⟨nx1, nx2, nx3, nx4, nx5⟩ := mR_n m2 hx
    obtain ⟨ny1, ny2, ny3, ny4, ny5⟩ := mR_n m2 hy
    generalize (qc_u (qc_u I1 291 25 (I1 291 25 - 1)) 291 34 ((qc_u I1 291 25 (I1 291 25 - 1)) 291 34 - 1)) = G at he1 m2 nx1 nx2 ny1 ny2 g312
    obtain ⟨e1', e2', e3', e4', e5', e6', e7'⟩ := hG
    rw [List.length_cons] at e3' e4' e5'
    have g312 : G 312 F.length = nI at_ := g312
    -- the fit
    have e141 : fX12_endsFunction_b101 w G L1 D1 R (nI F.length) (nI (m - 22)) (nI y) (nI x) = fX12_endsFunction_b141 w G L1 D1 R (nI F.length) (nI (m - 22)) (nI y) (nI x) (if (!(Nat.beq dx.1 0) && !(Nat.beq dy.1 0)) = true then 1 else 0) := by
      unfold fX12_endsFunction_b101 fX12_endsFunction_b140
      rw [if_pos (mR_15 m2), qi_inbN hx4 (by decide), qc_gdt, nI_clamp (by omega), nx1, mq_num nx3, qc_bds]
      cases hwx : Nat.beq dx.1 0 with
      | false =>
        rw [if_pos (show (!false) = true from rfl), qi_inbN u3 (by decide), qc_gdt, nI_clamp (by omega), ny1, mq_num ny3, qc_bds]
        cases hwy : Nat.beq dy.1 0 with
        | false => rfl
        | true => rfl
      | true => rfl
    rw [e141] at he1
    unfold fX12_endsFunction_b141 at he1
    rw [t6, qc_gdt, t7, g312] at he1
    show mV b len q I0 L0 D0 R (K_o w R x1) o J P F ds (qs_fit _ _ _) _
    unfold qs_fit
    cases hok : (!(Nat.beq dx.1 0) && !(Nat.beq dy.1 0)) with
    | true =>
      obtain ⟨ox, oy⟩ := Bool.and_eq_true_iff.mp hok
      have ox : dx.1 ≠ 0 := fun u => by rw [u] at ox; cases ox
      have oy : dy.1 ≠ 0 := fun u => by rw [u] at oy; cases oy
      obtain ⟨I4, z1, z2, z3⟩ := mr_needs4 (w := w) (R := R) m2 (ok := true) (x := 1) rfl (j := at_)
      rw [z2 rfl] at z1
      obtain ⟨I5, I6, w1, w2, w3⟩ := mr_called (w := w) (R := R) m2 hm hx hy (fun u => by rcases hB with z | z; exact z.2.2; exact absurd z.1 u) hdd (hD ox oy) hz oy (by omega) (by omega)
      rw [hok, if_pos rfl, z1, qc_bds, w1, qc_bds, w2, qc_bds, qc_bds, if_pos rfl] at he1
      rw [if_pos rfl, e309 h (by rw [List.length_cons]; omega) he1, e309_1 w3, mOu_of]
      refine mV_s (s := (dd, st2)) (t := [dd]) (x := ds.length) w3 ?_ ?_ (n := qcF) (N := N) ?_ rfl
      · rw [List.getElem?_append_right (Nat.le_refl _), Nat.sub_self]; rfl
      · refine ⟨q1, by omega, ?_, ?_, hFo, hF1, ?_⟩
        · rw [List.length_append, List.length_singleton]; show _ ≤ st2.1 + 1; omega
        · rw [List.length_cons]; show _ ≤ st2.1; omega
        · show 500 ≤ N + 1 + st2.1; omega
      · unfold qcF; omega
    | false =>
      obtain ⟨I4, z1, z2, z3⟩ := mr_needs4 (w := w) (R := R) m2 (ok := false) (x := 0) rfl (j := at_)
      have m3 := z3 rfl
      obtain ⟨I5, w1, w2⟩ := mr_lay (w := w) (R := R) m3 (x := 0) (by decide) (by omega)
      have w1 : fX12_lay w I4 L1 D1 R 0 = some ((), I5, L1, D1, R) := w1
      rw [hok, if_neg (by decide), z1, qc_bds, mr_calledE m3 hx4 u3, qc_bds, w1, qc_bds, qc_bds, if_pos rfl] at he1
      rw [if_neg (by decide), e309 h (by rw [List.length_cons]; omega) he1]
      exact mV_e w2 (mE_309 w2 _)
end
