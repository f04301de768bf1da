/-! the reference reads as the spec does: what ends a frame -/
section
variable {w : qcW} {I I0 : qTI} {L L0 : qTL} {D D0 : qTD} {R : qTR} {b ln : Nat → Nat} {len q o N n : Nat} {τ : Option (Nat × Nat)} {st : qP} {J : qJs} {P : List Nat} {F : qFs} {ds : List qDen} {x1 x3 : Int32} {f : Nat × Nat × Int32 × Nat × Int32}
theorem e309 (h : mR b q I0 L0 D0 none st o J P F ds I L D) (hF : 1 < F.length ∧ F.length < 1000) {r : Int32} {I' : qTI} {L' : qTL} {D' : qTD} {k27 : qK27} (he : fX12_ends w I L D R = some (r, I', L', D', R)) : fX12_expression_l309 w k27 (n + 1) (I, L, D, R, x1, 2) = fX12_expression_l309 w k27 n (I', L', D', R, x1, r) := by
  rw [fX12_expression_l309_s]
  unfold fX12_expression_b309
  have e := qi_le (a := F.length) (b := 1) (by omega) (by decide)
  rw [if_pos (mR_15 h), if_pos rfl, h.2.2.2.2.2.1.1, if_neg (fun u => by have := e.mp u; omega), he, qc_bds]
theorem e309_1 (h : mR b q I0 L0 D0 none st o J P F ds I L D) {k27 : qK27} : fX12_expression_l309 w k27 (n + 1) (I, L, D, R, x1, 1) = k27 (I, L, D, R, x1, 0, 1) := by
  rw [fX12_expression_l309_s]
  unfold fX12_expression_b309 fX12_expression_b339 fX12_expression_b357 fX12_expression_b369
  rw [if_pos (mR_15 h), if_neg (by decide), if_pos (mR_15 h), if_neg (by decide), if_neg (by decide)]
theorem e309_0 (h : mR b q I0 L0 D0 none st o J P F ds I L D) {k27 : qK27} : fX12_expression_l309 w k27 (n + 1) (I, L, D, R, x1, 0) = k27 (I, L, D, R, x1, 1, 1) := by
  rw [fX12_expression_l309_s]
  unfold fX12_expression_b309 fX12_expression_b339 fX12_expression_b357 fX12_expression_b369
  rw [if_pos (mR_15 h), if_neg (by decide), if_pos (mR_15 h), if_neg (by decide), if_pos rfl]
/-- the top frame, as it is read -/
theorem mR_ft (h : mR b q I0 L0 D0 τ st o J P (f :: F) ds I L D) (hF : F.length < 40) : I 291 34 - 1 = nI F.length ∧ I 310 F.length = nI f.1 ∧ I 312 F.length = f.2.2.1 ∧ I 313 F.length = nI f.2.2.2.1 ∧ I 314 F.length = f.2.2.2.2 ∧ qc_inb (nI F.length) 40 = true ∧ (nI F.length).toNatClampNeg = F.length := by
  obtain ⟨e1, ⟨e2, e3, e4, e5, e6, e7, e8⟩, -⟩ := h.2.2.2.2.2.1
  refine ⟨?_, e2, e4, e5, e6, qi_inbN hF (by decide), nI_clamp (by omega)⟩
  rw [e1, List.length_cons]
  exact qi_sub (a := F.length + 1) (b := 1) (by omega)
theorem mr_want {c : Int32} {m : Nat} (hc : ∀ (I : qTI) (L : qTL) (D : qTD) (m' : Nat), mTs w I L D R m' → fX12_is w I L D R c = some (decide (m' = m), I, L, D, R)) (hb : qt_B b len) (hS : mS b ln len q I0) (h : mR b q I0 L0 D0 none st o J P F ds I L D) (hG : st.1 ≤ len ∧ qt_m b st.1 ≠ 63) : ∃ (I' : qTI) (L' : qTL) (D' : qTD), fX12_want w I L D R c = some ((), I', L', D', R) ∧ (∀ st', qs_ex b m st = .inr st' → mR b q I0 L0 D0 none st' o J P F ds I' L' D') ∧ ∀ e, qs_ex b m st = .inl e → mR b q I0 L0 D0 (some e) st o J P F ds I' L' D' := by
  have hts := mr_ts (w := w) (R := R) hb hS h hG
  unfold fX12_want fX12_want_b17 qs_ex
  rw [hc _ _ _ _ hts, qc_bds]
  by_cases z : qt_m b st.1 = m
  · rw [if_pos (decide_eq_true z)]
    obtain ⟨I', L', D', k1, k2, k3⟩ := mr_next (w := w) (R := R) hb hS h hG
    rw [k1, qc_bds, if_pos z]
    exact ⟨I', L', D', rfl, k2, k3⟩
  · rw [if_neg (fun u => z (of_decide_eq_true u)), mR_10 h, if_neg z]
    obtain ⟨I', k1, k2⟩ := mr_fail (w := w) (R := R) h (k := 2) (j := qt_from b st.1) (by decide)
    have k1 : fX12_fail w I L D R 2 (nI (qt_from b st.1)) = some ((), I', L, D, R) := k1
    rw [k1, qc_bds, mr_nextE k2, qc_bds]
    exact ⟨I', L, D, rfl, fun st' u => (by cases u), fun e u => by cases u; exact k2⟩
/-- open and frames go back -/
theorem mR_od (h : mR b q I0 L0 D0 τ st (o + 1) J P (f :: F) ds I L D) : mR b q I0 L0 D0 τ st o J P F ds (qc_u (qc_u I 291 25 (I 291 25 - 1)) 291 34 ((qc_u I 291 25 (I 291 25 - 1)) 291 34 - 1)) L D := mR_d (mR_c h)
theorem qs_ex_n {m : Nat} (hm : m ≠ 0) (hb : qt_B b len) (hG : qs_G b len st) {st' : qP} (h : qs_ex b m st = .inr st') : qs_G b len st' ∧ st.1 < st'.1 ∧ st'.2 = st.2 := by
  obtain ⟨e1, e2⟩ := qs_ex_of h
  exact qs_G_adv hb hG (by omega) e2
/-- ( .. ) -/
theorem me_paren (hb : qt_B b len) (hS : mS b ln len q I0) {n' x : Nat} {d : qDen} (h : mR b q I0 L0 D0 none st (o + 1) J (x :: P) (f :: F) ds I L D) (hG : mG b len st (o + 1) J (x :: P) (f :: F) ds (N + 1)) (hn : J.length + F.length + 1 < n') (hf : f.1 = 1) (hx : ds[x]? = some d) (st0 : qP) (hF1 : 1 ≤ F.length) (hFo : F.length ≤ o + 1) : mV b len q I0 L0 D0 R (K_o w R x1) o J P F ds (qs_b (qs_ex b 55 st) fun st3 => .inr (d, st3)) (K_e w R x1 N n' I L D st0) := by
  obtain ⟨g1, g2, g3, g4, g5, g6⟩ := mG_le hb hG
  rw [List.length_cons] at g2
  obtain ⟨t1, t2, t3, t4, t5, t6, t7⟩ := mR_ft h (by omega)
  obtain ⟨n', rfl⟩ : ∃ k, n' = k + 2 := ⟨n' - 2, by omega⟩
  obtain ⟨N, rfl⟩ : ∃ k, N = k + 1 := ⟨N - 1, by omega⟩
  obtain ⟨I1, L1, D1, k1, k2, k3⟩ := mr_want (w := w) (R := R) (c := 41) (m := 55) (fun I L D m' h => ms_55 h) hb hS h (mG_st hG)
  have he : fX12_ends w I L D R = some (1, qc_u (qc_u I1 291 25 (I1 291 25 - 1)) 291 34 ((qc_u I1 291 25 (I1 291 25 - 1)) 291 34 - 1), L1, D1, R) := by
    unfold fX12_ends
    rw [t1, t6, qc_gdt, t7, t2, hf, if_pos (show nI 1 = 1 from rfl), k1, qc_bds]
  unfold K_e
  rw [e309 h (by rw [List.length_cons]; omega) he]
  cases ha : qs_ex b 55 st with
  | inl e =>
    have m2 := mR_od (k3 e ha)
    exact mV_e m2 (mE_309 m2 _)
  | inr st2 =>
    have m2 := mR_od (k2 st2 ha)
    obtain ⟨q1, q2, q3⟩ := qs_ex_n (by decide) hb hG.1 ha
    rw [e309_1 m2, mOu_of]
    obtain ⟨e1, e2, e3, e4, e5, e6, e7⟩ := hG
    rw [List.length_cons] at e3 e4 e5
    refine mV_s (s := (d, st2)) (t := []) (x := x) ?_ ?_ ?_ (n := qcF) (N := N) ?_ rfl
    · rw [List.append_nil]; exact m2
    · rw [List.append_nil]; exact hx
    · rw [List.append_nil]
      exact ⟨q1, by omega, by show _ ≤ st2.1 + 1; omega, by rw [List.length_cons]; show _ ≤ st2.1; omega, hFo, hF1, by show 500 ≤ N + 1 + st2.1; omega⟩
    · unfold qcF; omega
theorem mq_kl {l : Nat} (hl : l < 8) : fX12_kindOfLane w I L D R (nI l) = some (nI (qw_kd l), I, L, D, R) := by
  rcases (show l = 0 ∨ l = 1 ∨ l = 2 ∨ l = 3 ∨ l = 4 ∨ l = 5 ∨ l = 6 ∨ l = 7 by omega) with z | z | z | z | z | z | z | z
  all_goals (subst z; rfl)
/-- $c [ .. ] -/
theorem me_index (hb : qt_B b len) (hS : mS b ln len q I0) {n' x l c at_ : Nat} {d : qDen} (h : mR b q I0 L0 D0 none st (o + 1) J (x :: P) ((2, J.length, nI at_, c, nI l) :: F) ds I L D) (hG : mG b len st (o + 1) J (x :: P) ((2, J.length, nI at_, c, nI l) :: F) ds (N + 1)) (hn : J.length + F.length + 1 < n') (hl : l < 8) (hc : c < 10) (hx : ds[x]? = some d) (hd : qs_D st.2.length d) (hz : d.2.2.1 + 1 ≤ 400) (st0 : qP) (hF1 : 1 ≤ F.length) (hFo : F.length ≤ o + 1) : mV b len q I0 L0 D0 R (K_o w R x1) o J P F ds (qs_b (qs_ex b 57 st) fun st4 => qs_fit (Nat.beq d.1 1) at_ <| .inr (d_un (qw_kd l) d.1 [(10 + l, c)] d, st4)) (K_e w R x1 N n' I L D st0) := by
  obtain ⟨g1, g2, g3, g4, g5, g6⟩ := mG_le hb hG
  rw [List.length_cons] at g2 g4
  obtain ⟨t1, t2, t3, t4, t5, t6, t7⟩ := mR_ft h (by omega)
  obtain ⟨n', rfl⟩ : ∃ k, n' = k + 2 := ⟨n' - 2, by omega⟩
  obtain ⟨N, rfl⟩ : ∃ k, N = k + 1 := ⟨N - 1, by omega⟩
  obtain ⟨u1, u2, u3⟩ := mr_taken (w := w) (R := R) h (by omega)
  obtain ⟨I1, L1, D1, k1, k2, k3⟩ := mr_want (w := w) (R := R) (c := 93) (m := 57) (fun I L D m' h => ms_57 h) hb hS u2 (mG_st hG)
  -- behind ]
  have he : fX12_ends w I L D R = qc_gd (qc_inb (nI x) 420) (if ((qc_u (qc_u I1 291 25 (I1 291 25 - 1)) 291 34 ((qc_u I1 291 25 (I1 291 25 - 1)) 291 34 - 1)) 303 (Int32.toNatClampNeg (nI x))) = (1 : Int32) then (fX12_ends_b119 w (qc_u (qc_u I1 291 25 (I1 291 25 - 1)) 291 34 ((qc_u I1 291 25 (I1 291 25 - 1)) 291 34 - 1)) L1 D1 R (nI F.length) (nI x) (1 : Int32)) else (fX12_ends_b119 w (qc_u (qc_u I1 291 25 (I1 291 25 - 1)) 291 34 ((qc_u I1 291 25 (I1 291 25 - 1)) 291 34 - 1)) L1 D1 R (nI F.length) (nI x) (0 : Int32))) := by
    unfold fX12_ends
    rw [t1, t6, qc_gdt, t7, t2, if_neg (show ¬ nI 2 = 1 by decide), if_pos (show nI 2 = 2 from rfl), u1, qc_bds, k1, qc_bds]
  rw [qi_inbN u3 (by decide), qc_gdt, nI_clamp (by omega)] at he
  unfold K_e
  have lx : (ds ++ [d_un (qw_kd l) d.1 [(10 + l, c)] d])[x]? = some d := ds_up hx
  have fr : ∀ {τ st'}, mR b q I0 L0 D0 τ st' (o + 1) J P ((2, J.length, nI at_, c, nI l) :: F) ds I1 L1 D1 → (qc_u (qc_u I1 291 25 (I1 291 25 - 1)) 291 34 ((qc_u I1 291 25 (I1 291 25 - 1)) 291 34 - 1)) 312 F.length = nI at_ ∧ (qc_u (qc_u I1 291 25 (I1 291 25 - 1)) 291 34 ((qc_u I1 291 25 (I1 291 25 - 1)) 291 34 - 1)) 313 F.length = nI c ∧ (qc_u (qc_u I1 291 25 (I1 291 25 - 1)) 291 34 ((qc_u I1 291 25 (I1 291 25 - 1)) 291 34 - 1)) 314 F.length = nI l := fun m1 => by
    obtain ⟨v1, v2, v3, v4, v5, v6, v7⟩ := mR_ft m1 (by omega)
    have off : ∀ a, a ≠ 291 → (qc_u (qc_u I1 291 25 (I1 291 25 - 1)) 291 34 ((qc_u I1 291 25 (I1 291 25 - 1)) 291 34 - 1)) a = I1 a := fun a ha => by rw [qc_u_off _ _ ha, qc_u_off _ _ ha]
    rw [off 312 (by decide), off 313 (by decide), off 314 (by decide)]
    exact ⟨v3, v4, v5⟩
  cases ha : qs_ex b 57 st with
  | inl e =>
    have m1 := k3 e ha
    have m2 := mR_od m1
    obtain ⟨f1, f2, f3⟩ := fr m1
    generalize (qc_u (qc_u I1 291 25 (I1 291 25 - 1)) 291 34 ((qc_u I1 291 25 (I1 291 25 - 1)) 291 34 - 1)) = G at he m2 f1 f2 f3
    obtain ⟨I3, w1, w2, w3⟩ := mr_nlE (w := w) (R := R) m2 (by omega) 4 (nI x) (nI l) 0 (nI c) (nI (qw_kd l))
    have h119 : ∀ s0 : Int32, fX12_ends_b119 w G L1 D1 R (nI F.length) (nI x) s0 = some (1, I3, L1, D1, R) := fun s0 => by
      unfold fX12_ends_b119
      rw [t6, qc_gdt, t7, mr_needs4E m2, qc_bds, qc_gdt, qc_gdt, qc_gdt, f3, mq_kl hl, qc_bds, f2, w1, qc_bds, w2, qc_bds]
    have he2 : fX12_ends w I L D R = some (1, I3, L1, D1, R) := by
      rw [he]
      split
      · exact h119 1
      · exact h119 0
    rw [e309 h (by rw [List.length_cons]; omega) he2]
    exact mV_e w3 (mE_309 w3 _)
  | inr st2 =>
    have m1 := k2 st2 ha
    have m2 := mR_od m1
    obtain ⟨f1, f2, f3⟩ := fr m1
    obtain ⟨q1, q2, q3⟩ := qs_ex_n (by decide) hb hG.1 ha
    obtain ⟨nx1, nx2, nx3, nx4, nx5⟩ := mR_n m2 hx
    generalize (qc_u (qc_u I1 291 25 (I1 291 25 - 1)) 291 34 ((qc_u I1 291 25 (I1 291 25 - 1)) 291 34 - 1)) = G at he m2 f1 f2 f3 nx1 nx2
    have e1 : nI d.1 = 1 ↔ d.1 = 1 := kz1 nx3
    rw [nx1] at he
    obtain ⟨e1', e2', e3', e4', e5', e6', e7'⟩ := hG
    rw [List.length_cons] at e3' e4' e5'
    show mV b len q I0 L0 D0 R (K_o w R x1) o J P F ds (qs_fit _ _ _) _
    unfold qs_fit
    by_cases y : d.1 = 1
    · rw [if_pos (e1.mpr y)] at he
      rw [if_pos (qs_beq.mpr y)]
      obtain ⟨I2, I3, w1, w2, w3⟩ := mr_nl (w := w) (R := R) m2 (d := d_un (qw_kd l) d.1 [(10 + l, c)] d) (nr := st.2.length) (x1 := 4) (x2 := nI x) (x3 := nI l) (x4 := 0) (x5 := nI c) (x6 := nI (qw_kd l)) (by omega) (by omega) (D_un hd (qw_kd_le hl) (Or.inr rfl) (by rw [y]; exact T_fetch hl hc) (show 1 ≤ 3 by decide)) (by rw [un_sz]; exact hz) rfl (fun I' e => by
        show (if nI x = (-1 : Int32) then _ else _) = _
        rw [if_neg (qi_nI_m1 (by omega)), qi_inbN u3 (by decide), qc_gdt, nI_clamp (by omega), e, nx2]
        rfl) (fun T a1 a2 a3 a4 a5 a6 => ⟨a6, Or.inr (Or.inr (Or.inr (Or.inr (Or.inl ⟨l, c, x, d, a1, a2, a3, a5, hl, nx5, lx, rfl⟩))))⟩)
      have he2 : fX12_ends w I L D R = some (1, I3, L1, D1, R) := by
        rw [he]
        unfold fX12_ends_b119
        obtain ⟨I4, z1, z2, z3⟩ := mr_needs4 (w := w) (R := R) m2 (ok := true) (x := 1) rfl (j := at_)
        rw [z2 rfl] at z1
        rw [t6, qc_gdt, t7, f1, z1, qc_bds, qc_gdt, qc_gdt, qc_gdt, f3, mq_kl hl, qc_bds, f2, w1, qc_bds, w2, qc_bds]
      rw [e309 h (by rw [List.length_cons]; omega) he2, e309_1 w3, mOu_of]
      refine mV_s (s := (d_un (qw_kd l) d.1 [(10 + l, c)] d, st2)) (t := [d_un (qw_kd l) d.1 [(10 + l, c)] d]) (x := ds.length) w3 ?_ ?_ (n := qcF) (N := N) ?_ rfl
      · rw [List.getElem?_append_right (Nat.le_refl _), Nat.sub_self]; rfl
      · refine ⟨q1, by omega, ?_, ?_, hFo, hF1, ?_⟩
        · rw [List.length_append, List.length_singleton]; show _ ≤ st2.1 + 1; omega
        · rw [List.length_cons]; show _ ≤ st2.1; omega
        · show 500 ≤ N + 1 + st2.1; omega
      · unfold qcF; omega
    · rw [if_neg (fun u => y (e1.mp u))] at he
      rw [if_neg (fun u => y (qs_beq.mp u))]
      obtain ⟨I4, z1, z2, z3⟩ := mr_needs4 (w := w) (R := R) m2 (ok := false) (x := 0) rfl (j := at_)
      have m3 := z3 rfl
      obtain ⟨I3, w1, w2, w3⟩ := mr_nlE (w := w) (R := R) m3 (by omega) 4 (nI x) (I4 314 F.length) 0 (I4 313 F.length) (nI (qw_kd l))
      have f34 : I4 314 F.length = nI l := by
        have hfk : I4 = qc_u (qc_u G 291 15 4) 291 16 (nI at_) := by
          have : fX12_needs4 w G L1 D1 R 0 (nI at_) = some ((), qc_u (qc_u G 291 15 4) 291 16 (nI at_), L1, D1, R) := by
            unfold fX12_needs4
            rw [if_pos (mR_15 m2), if_pos rfl, mx_fail (mR_15 m2), qc_bds]
          rw [this] at z1
          cases z1
          rfl
        rw [hfk, qc_u_off _ _ (by decide), qc_u_off _ _ (by decide), f3]
      have he2 : fX12_ends w I L D R = some (1, I3, L1, D1, R) := by
        rw [he]
        unfold fX12_ends_b119
        rw [t6, qc_gdt, t7, f1, z1, qc_bds, qc_gdt, qc_gdt, qc_gdt]
        rw [f34] at w1 ⊢
        rw [mq_kl hl, qc_bds, w1, qc_bds, w2, qc_bds]
      rw [e309 h (by rw [List.length_cons]; omega) he2]
      exact mV_e w3 (mE_309 w3 _)
end
