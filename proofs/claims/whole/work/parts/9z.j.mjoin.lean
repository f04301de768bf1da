/-! the reference joins what was read -/
theorem jo_sv1 : ∀ m, m < 62 → (qs_sv m ≤ 8 ∧ qs_sv m ≠ 3 ∧ (qs_sv m = 1 ↔ m = 20) ∧ (qs_sv m = 2 ↔ m = 21)) := by decide
theorem jo_sv2 : ∀ m, m < 62 → ((qs_sv m = 4 ↔ 36 ≤ m ∧ m ≤ 41) ∧ qs_jo m < 2000) := by decide
theorem jo_sv {m : Nat} (hm : m < 62) : qs_sv m ≤ 8 ∧ qs_sv m ≠ 3 ∧ (qs_sv m = 1 ↔ m = 20) ∧ (qs_sv m = 2 ↔ m = 21) ∧ (qs_sv m = 4 ↔ 36 ≤ m ∧ m ≤ 41) ∧ qs_jo m < 2000 ∧ (qs_sv m = 4 → qs_jo m = m - 36) ∧ (qs_sv m ≠ 4 → qs_jo m = qs_op m) := by
  obtain ⟨a1, a2, a3, a4⟩ := jo_sv1 m hm
  obtain ⟨a5, a6⟩ := jo_sv2 m hm
  refine ⟨a1, a2, a3, a4, a5, a6, fun z => ?_, fun z => ?_⟩
  · unfold qs_jo; rw [if_pos z]
  · unfold qs_jo; rw [if_neg z]
section
variable {w : qcW} {I I0 : qTI} {L L0 : qTL} {D D0 : qTD} {R : qTR} {b ln : Nat → Nat} {len q o : Nat} {τ : Option (Nat × Nat)} {st : qP} {J : qJs} {P : List Nat} {F : qFs} {ds : List qDen}
theorem mq_num {k : Nat} (hk : k ≤ 4) : fX12_isNumber w I L D R (nI k) = some (!(Nat.beq k 0), I, L, D, R) := by
  unfold fX12_isNumber
  have e : nI k ≤ 0 ↔ k ≤ 0 := qi_le (b := 0) (by omega) (by decide)
  by_cases z : k = 0
  · rw [if_pos (e.mpr (by omega)), z]; rfl
  · rw [if_neg (fun y => z (by have := e.mp y; omega)), show Nat.beq k 0 = false from Bool.eq_false_iff.mpr (fun y => z (qs_beq.mp y))]; rfl
theorem mq_wh {k : Nat} (hk : k ≤ 4) : fX12_isWhole w I L D R (nI k) = some (qs_wh k, I, L, D, R) := by
  unfold fX12_isWhole qs_wh
  have e1 : nI k = 1 ↔ k = 1 := qi_nI_inj' (j := 1) (by omega) (by decide)
  have e2 : nI k = 2 ↔ k = 2 := qi_nI_inj' (j := 2) (by omega) (by decide)
  by_cases z : k = 1
  · rw [if_pos (e1.mpr z), z]; rfl
  · rw [if_neg (fun y => z (e1.mp y)), show Nat.beq k 1 = false from Bool.eq_false_iff.mpr (fun y => z (qs_beq.mp y)), Bool.false_or]
    by_cases y : k = 2
    · rw [if_pos (e2.mpr y), y]; rfl
    · rw [if_neg (fun u => y (e2.mp u)), show Nat.beq k 2 = false from Bool.eq_false_iff.mpr (fun u => y (qs_beq.mp u))]
theorem mq_later {k l : Nat} (hk : k ≤ 4) (hl : l ≤ 4) : fX12_later w I L D R (nI k) (nI l) = some (nI (max k l), I, L, D, R) := by
  unfold fX12_later
  have e := qi_le (a := k) (b := l) (by omega) (by omega)
  by_cases z : k ≤ l
  · rw [if_pos (e.mpr z), Nat.max_eq_right z]
  · rw [if_neg (fun y => z (e.mp y)), Nat.max_eq_left (by omega)]
theorem mq_most {k l : Nat} (hk : k ≤ 1000) (hl : l ≤ 1000) : fX12_most w I L D R (nI k) (nI l) = some (nI (max k l), I, L, D, R) := by
  unfold fX12_most
  have e := qi_le (a := k) (b := l) (by omega) (by omega)
  by_cases z : k ≤ l
  · rw [if_pos (e.mpr z), Nat.max_eq_right z]
  · rw [if_neg (fun y => z (e.mp y)), Nat.max_eq_left (by omega)]
/-- a node that is there -/
theorem mR_n (h : mR b q I0 L0 D0 τ st o J P F ds I L D) {x : Nat} {d : qDen} (hx : ds[x]? = some d) : I 303 x = nI d.1 ∧ I 304 x = nI d.2.1 ∧ d.1 ≤ 4 ∧ d.2.1 ≤ 400 ∧ x < ds.length := by
  obtain ⟨⟨h1, h2, h3, h4, h5, h6⟩, -⟩ := h.2.2.2.2.2.2.2 x d hx
  exact ⟨h1, h2, h3, by omega, (List.getElem?_eq_some_iff.mp hx).1⟩
theorem nd_2 {x e : Nat} {d f : qDen} (I' : qTI) (hx : x < 420) (he : e < 420) (h1 : I' 304 x = nI d.2.1) (h2 : I' 304 e = nI f.2.1) (g1 : d.2.1 ≤ 400) (g2 : f.2.1 ≤ 400) : fX12_needOf_b90 w I' L D R (nI x) (nI e) = some (nI (max d.2.1 (1 + f.2.1)), I', L, D, R) := by
  unfold fX12_needOf_b90
  rw [qi_inbN hx (by decide), qi_inbN he (by decide), qc_gdt, qc_gdt, nI_clamp (by omega), nI_clamp (by omega), h1, h2, show (1 : Int32) + nI f.2.1 = nI (1 + f.2.1) from nI_add 1 _, mq_most (by omega) (by omega), qc_bds]
theorem nd_2j {x e : Nat} {d f : qDen} (I' : qTI) (hx : x < 420) (he : e < 420) (h1 : I' 304 x = nI d.2.1) (h2 : I' 304 e = nI f.2.1) (g1 : d.2.1 ≤ 400) (g2 : f.2.1 ≤ 400) : fX12_needOf_b108 w I' L D R (nI x) (nI e) = some (nI (max d.2.1 f.2.1), I', L, D, R) := by
  unfold fX12_needOf_b108
  rw [qi_inbN hx (by decide), qi_inbN he (by decide), qc_gdt, qc_gdt, nI_clamp (by omega), nI_clamp (by omega), h1, h2, mq_most (by omega) (by omega), qc_bds]
theorem nd_1 {x : Nat} {d : qDen} (I' : qTI) (hx : x < 420) (h1 : I' 304 x = nI d.2.1) : fX12_needOf_b150 w I' L D R (nI x) = some (nI d.2.1, I', L, D, R) := by
  unfold fX12_needOf_b150
  rw [qi_inbN hx (by decide), qc_gdt, nI_clamp (by omega), h1]
/-- node and lay -/
theorem mr_nl (h : mR b q I0 L0 D0 none st o J P F ds I L D) {d : qDen} {nr : Nat} {x1 x2 x3 x4 x5 x6 : Int32} (hd : ds.length < 420) (hP : P.length < 420) (hD : qs_D nr d) (hz : d.2.2.1 ≤ 400) (h6 : x6 = nI d.1) (hn : ∀ I' : qTI, I' 304 = I 304 → fX12_needOf w I' L D R x1 x2 x3 x4 = some (nI d.2.1, I', L, D, R))
    (hf : ∀ T : qTI, T 298 ds.length = x1 → T 299 ds.length = x2 → T 300 ds.length = x3 → T 301 ds.length = x4 → T 302 ds.length = x5 → (T 303 ds.length = nI d.1 ∧ T 304 ds.length = nI d.2.1 ∧ d.1 ≤ 4 ∧ 1 ≤ d.2.1 ∧ d.2.1 ≤ d.2.2.1 ∧ d.2.2.1 ≤ 400) → nN T (ds ++ [d]) ds.length d) :
    ∃ I' I'' : qTI, fX12_node w I L D R x1 x2 x3 x4 x5 x6 = some (nI ds.length, I', L, D, R) ∧ fX12_lay w I' L D R (nI ds.length) = some ((), I'', L, D, R) ∧ mR b q I0 L0 D0 none st o J (ds.length :: P) F (ds ++ [d]) I'' L D := by
  obtain ⟨d1, d2, ⟨d3, d4⟩, d5⟩ := hD
  obtain ⟨I', k1, k2⟩ := mr_node (w := w) (R := R) h (d := d) (x5 := x5) (x6 := x6) hd hn (fun T t1 t2 t3 t4 t5 t6 t7 => hf T t1 t2 t3 t4 t5 ⟨t6.trans h6, t7, d1, d3, d4, hz⟩)
  obtain ⟨I'', k3, k4⟩ := mr_lay (w := w) (R := R) k2 (x := ds.length) hd hP
  exact ⟨I', I'', k1, k3, k4⟩
theorem mr_nlE {e : Nat × Nat} (h : mR b q I0 L0 D0 (some e) st o J P F ds I L D) (hP : P.length < 420) (x1 x2 x3 x4 x5 x6 : Int32) : ∃ I'' : qTI, fX12_node w I L D R x1 x2 x3 x4 x5 x6 = some (0, I, L, D, R) ∧ fX12_lay w I L D R 0 = some ((), I'', L, D, R) ∧ mR b q I0 L0 D0 (some e) st o J (0 :: P) F ds I'' L D := by
  obtain ⟨I'', k3, k4⟩ := mr_lay (w := w) (R := R) h (x := 0) (by decide) hP
  exact ⟨I'', mr_nodeE h _ _ _ _ _ _, k3, k4⟩
/-- two sums are joined -/
theorem mr_joinB {m x y at_ nr : Nat} {dx dy : qDen} (hm : m < 62) (hv : qs_sv m ≠ 0) (h : mR b q I0 L0 D0 none st o ((qs_sv m, qs_jo m, nI at_) :: J) (y :: x :: P) F ds I L D) (hx : ds[x]? = some dx) (hy : ds[y]? = some dy) (hd : ds.length < 420) (hP : P.length < 418) (hJ : J.length < 420)
    (hD : qs_fits m dx.1 dy.1 = true → qs_D nr (qs_join m dx dy) ∧ (qs_join m dx dy).2.2.1 ≤ 400) :
    ∃ I' : qTI, fX12_joins w I L D R = some ((), I', L, D, R) ∧ (qs_fits m dx.1 dy.1 = true → mR b q I0 L0 D0 none st o J (ds.length :: P) F (ds ++ [qs_join m dx dy]) I' L D) ∧ (qs_fits m dx.1 dy.1 = false → mR b q I0 L0 D0 (some (4, at_)) st o J (0 :: P) F ds I' L D) := by
  obtain ⟨s1, s2, s3, s4, s5, s6, s7, s8⟩ := jo_sv hm
  obtain ⟨j0, ⟨j1, j2, j3, j4⟩, j5⟩ := h.2.2.2.1
  have hA := mR_j h
  obtain ⟨t1, t2, t3⟩ := mr_taken (w := w) (R := R) hA (by rw [List.length_cons]; omega)
  obtain ⟨u1, u2, u3⟩ := mr_taken (w := w) (R := R) t2 (by omega)
  obtain ⟨nx1, nx2, nx3, nx4, nx5⟩ := mR_n t2 hx
  obtain ⟨ny1, ny2, ny3, ny4, ny5⟩ := mR_n t2 hy
  obtain ⟨vx1, vx2, -⟩ := mR_n u2 hx
  obtain ⟨vy1, vy2, -⟩ := mR_n u2 hy
  have e9 : ¬ nI (qs_sv m) = 9 := fun z => by have := qi_nI_inj (j := 9) (by omega) (by decide) z; omega
  have e3 : ¬ nI (qs_sv m) = 3 := fun z => by have := qi_nI_inj (j := 3) (by omega) (by decide) z; omega
  have ex0 : nI dx.1 = 0 ↔ dx.1 = 0 := kz nx3
  have ey0 : nI dy.1 = 0 ↔ dy.1 = 0 := kz ny3
  obtain ⟨G, hG⟩ : ∃ G, G = qc_u (qc_u (qc_u I 291 28 (nI J.length)) 291 32 (nI (x :: P).length)) 291 32 (nI P.length) := ⟨_, rfl⟩
  rw [← hG] at u1 u2 vx1 vx2 vy1 vy2
  obtain ⟨bo, bo1, bo0⟩ : ∃ bo : Int32, (dx.1 = 0 ∧ dy.1 = 0 → bo = 1) ∧ (¬ (dx.1 = 0 ∧ dy.1 = 0) → bo = 0) := by
    by_cases z : dx.1 = 0 ∧ dy.1 = 0
    · exact ⟨1, fun _ => rfl, fun y => absurd z y⟩
    · exact ⟨0, fun y => absurd y z, fun _ => rfl⟩
  -- down to the joint itself
  have e0 : fX12_joins w I L D R = fX12_joins_b203 w G L D R (nI (qs_sv m)) (nI (qs_jo m)) (nI at_) (nI y) (nI dy.1) (nI x) (nI dx.1) bo := by
    unfold fX12_joins
    rw [j0, List.length_cons, show nI (J.length + 1) - 1 = nI J.length from qi_sub (a := J.length + 1) (b := 1) (by omega)]
    simp only [qc_u_at, qi_inbN hJ (by decide : 420 < 2 ^ 31), qc_gdt, nI_clamp (show J.length < 2 ^ 31 by omega), qc_u_off _ _ (show (306 : Nat) ≠ 291 by decide), qc_u_off _ _ (show (307 : Nat) ≠ 291 by decide), qc_u_off _ _ (show (308 : Nat) ≠ 291 by decide), j1, j2, j3]
    rw [t1, qc_bds, qi_inbN t3 (by decide), qc_gdt, nI_clamp (by omega), ny1, if_neg e9, if_neg e3, u1, qc_bds, qi_inbN u3 (by decide), qc_gdt, nI_clamp (by omega), vx1]
    unfold fX12_joins_b202
    by_cases z : dx.1 = 0
    · rw [if_pos (ex0.mpr z)]
      by_cases z2 : dy.1 = 0
      · rw [if_pos (ey0.mpr z2), bo1 ⟨z, z2⟩]
      · rw [if_neg (fun u => z2 (ey0.mp u)), bo0 (fun u => z2 u.2)]
    · rw [if_neg (fun u => z (ex0.mp u)), bo0 (fun u => z u.1)]
  rw [e0]
  have hP2 : P.length < 420 := by omega
  -- the end: needs4, node, lay
  have fin : ∀ (ok : Bool) (c : Int32), ok = qs_fits m dx.1 dy.1 → (c = if ok = true then 1 else 0) → ∀ (x1 x5 x6 : Int32), (ok = true → x6 = nI (qs_join m dx dy).1) → (ok = true → ∀ I' : qTI, I' 304 = G 304 → fX12_needOf w I' L D R x1 (nI x) (nI y) 0 = some (nI (qs_join m dx dy).2.1, I', L, D, R)) →
      (ok = true → ∀ T : qTI, T 298 ds.length = x1 → T 299 ds.length = nI x → T 300 ds.length = nI y → T 301 ds.length = 0 → T 302 ds.length = x5 → (T 303 ds.length = nI (qs_join m dx dy).1 ∧ T 304 ds.length = nI (qs_join m dx dy).2.1 ∧ (qs_join m dx dy).1 ≤ 4 ∧ 1 ≤ (qs_join m dx dy).2.1 ∧ (qs_join m dx dy).2.1 ≤ (qs_join m dx dy).2.2.1 ∧ (qs_join m dx dy).2.2.1 ≤ 400) → nN T (ds ++ [qs_join m dx dy]) ds.length (qs_join m dx dy)) →
      ∃ I' : qTI, (qc_bd (fX12_needs4 w G L D R c (nI at_)) fun _ I L D R => qc_bd (fX12_node w I L D R x1 (nI x) (nI y) 0 x5 x6) fun r I L D R => qc_bd (fX12_lay w I L D R r) fun _ I L D R => some ((), I, L, D, R)) = some ((), I', L, D, R) ∧ (qs_fits m dx.1 dy.1 = true → mR b q I0 L0 D0 none st o J (ds.length :: P) F (ds ++ [qs_join m dx dy]) I' L D) ∧ (qs_fits m dx.1 dy.1 = false → mR b q I0 L0 D0 (some (4, at_)) st o J (0 :: P) F ds I' L D) := by
    intro ok c hok hc x1 x5 x6 h6 hn hf
    obtain ⟨I', k1, k2, k3⟩ := mr_needs4 (w := w) (R := R) u2 hc (j := at_)
    rw [k1, qc_bds, ← hok]
    cases ok with
    | true =>
      rw [k2 rfl]
      obtain ⟨g1, g2⟩ := hD hok.symm
      obtain ⟨I1, I2, n1, n2, n3⟩ := mr_nl (w := w) (R := R) u2 (x5 := x5) hd hP2 g1 g2 (h6 rfl) (hn rfl) (hf rfl)
      rw [n1, qc_bds, n2, qc_bds]
      exact ⟨I2, rfl, fun _ => n3, fun z => (by cases z)⟩
    | false =>
      obtain ⟨I2, n1, n2, n3⟩ := mr_nlE (w := w) (R := R) (k3 rfl) hP2 x1 (nI x) (nI y) 0 x5 x6
      rw [n1, qc_bds, n2, qc_bds]
      exact ⟨I2, rfl, fun z => (by cases z), fun _ => n3⟩
  have gx : ∀ I' : qTI, I' 304 = G 304 → I' 304 x = nI dx.2.1 := fun I' e => by rw [e]; exact vx2
  have gy : ∀ I' : qTI, I' 304 = G 304 → I' 304 y = nI dy.2.1 := fun I' e => by rw [e]; exact vy2
  have lt3 : (3 : Int32) ≤ nI (qs_sv m) ↔ 3 ≤ qs_sv m := qi_le (a := 3) (by decide) (by omega)
  have hx2 : x < 420 := u3
  have hy2 : y < 420 := t3
  have lx : (ds ++ [qs_join m dx dy])[x]? = some dx := ds_up hx
  have ly : (ds ++ [qs_join m dx dy])[y]? = some dy := ds_up hy
  unfold fX12_joins_b203
  by_cases z1 : qs_sv m ≤ 2
  · -- and, or
    rw [if_neg (fun u => by have := lt3.mp u; omega)]
    unfold fX12_joins_b231
    have hok : qs_fits m dx.1 dy.1 = (Nat.beq dx.1 0 && Nat.beq dy.1 0) := by unfold qs_fits; rw [if_pos z1]
    have hc : bo = if qs_fits m dx.1 dy.1 = true then 1 else 0 := by
      rw [hok]
      by_cases a1 : dx.1 = 0 ∧ dy.1 = 0
      · rw [bo1 a1, a1.1, a1.2]; rfl
      · rw [bo0 a1, if_neg (fun u => a1 (by have := Bool.and_eq_true_iff.mp u; exact ⟨qs_beq.mp this.1, qs_beq.mp this.2⟩))]
    have e1 : nI (qs_sv m) = 1 ↔ qs_sv m = 1 := qi_nI_inj' (j := 1) (by omega) (by decide)
    have hjn : qs_join m dx dy = d_lg (if m = 20 then 1 else 0) dx dy := by unfold qs_join; rw [if_pos z1]
    by_cases z2 : qs_sv m = 1
    · have m20 := s3.mp z2
      simp only [if_pos (e1.mpr z2)]
      refine fin _ _ rfl hc 11 0 0 (fun _ => by rw [hjn]; rfl) (fun _ I' e => ?_) (fun _ T t1 t2 t3 t4 t5 t6 => ⟨t6, ?_⟩)
      · rw [hjn]; exact nd_2j I' hx2 hy2 (gx I' e) (gy I' e) nx4 ny4
      · exact Or.inr (Or.inr (Or.inr (Or.inr (Or.inr (Or.inl ⟨x, y, dx, dy, 0, t2, t3, t5, nx5, ny5, lx, ly, Or.inr (Or.inr (Or.inr (Or.inr ⟨t1, by rw [hjn, if_pos m20]⟩)))⟩)))))
    · have m20 : m ≠ 20 := fun u => z2 (s3.mpr u)
      simp only [if_neg (fun u => z2 (e1.mp u))]
      refine fin _ _ rfl hc 10 0 0 (fun _ => by rw [hjn]; rfl) (fun _ I' e => ?_) (fun _ T t1 t2 t3 t4 t5 t6 => ⟨t6, ?_⟩)
      · rw [hjn]; exact nd_2j I' hx2 hy2 (gx I' e) (gy I' e) nx4 ny4
      · exact Or.inr (Or.inr (Or.inr (Or.inr (Or.inr (Or.inl ⟨x, y, dx, dy, 0, t2, t3, t5, nx5, ny5, lx, ly, Or.inr (Or.inr (Or.inr (Or.inl ⟨t1, by rw [hjn, if_neg m20]⟩)))⟩)))))
  rw [if_pos (lt3.mpr (by omega))]
  have e4 : nI (qs_sv m) = 4 ↔ qs_sv m = 4 := qi_nI_inj' (j := 4) (by omega) (by decide)
  have e5 : nI (qs_sv m) = 5 ↔ qs_sv m = 5 := qi_nI_inj' (j := 5) (by omega) (by decide)
  have e6 : nI (qs_sv m) = 6 ↔ qs_sv m = 6 := qi_nI_inj' (j := 6) (by omega) (by decide)
  have bx : Nat.beq dx.1 0 = decide (dx.1 = 0) := by
    by_cases u : dx.1 = 0
    · rw [u]; rfl
    · rw [decide_eq_false u]; exact Bool.eq_false_iff.mpr (fun v => u (qs_beq.mp v))
  have by_ : Nat.beq dy.1 0 = decide (dy.1 = 0) := by
    by_cases u : dy.1 = 0
    · rw [u]; rfl
    · rw [decide_eq_false u]; exact Bool.eq_false_iff.mpr (fun v => u (qs_beq.mp v))
  by_cases z4 : qs_sv m = 4
  · -- a comparison
    rw [if_pos (e4.mpr z4), s7 z4]
    have mr := s5.mp z4
    have hok : qs_fits m dx.1 dy.1 = ((!(Nat.beq dx.1 0) && !(Nat.beq dy.1 0)) || ((Nat.beq dx.1 0 && Nat.beq dy.1 0) && (Nat.beq m 36 || Nat.beq m 37))) := by unfold qs_fits; rw [if_neg z1, if_neg (by omega), if_neg (by omega)]
    have hjn : qs_join m dx dy = d_bi 0 (max dx.1 dy.1) (max dx.1 dy.1) [(1400 + qs_ko (max dx.1 dy.1), 0), (1500 + (m - 36), 0)] dx dy := by unfold qs_join; rw [if_neg z1, if_neg (by omega), if_pos z4]
    have node : ∀ ok : Bool, ok = qs_fits m dx.1 dy.1 → ∃ I' : qTI, fX12_joins_b284 w G L D R (nI (m - 36)) (nI at_) (nI y) (nI x) (if ok = true then 1 else 0) = some ((), I', L, D, R) ∧ (qs_fits m dx.1 dy.1 = true → mR b q I0 L0 D0 none st o J (ds.length :: P) F (ds ++ [qs_join m dx dy]) I' L D) ∧ (qs_fits m dx.1 dy.1 = false → mR b q I0 L0 D0 (some (4, at_)) st o J (0 :: P) F ds I' L D) := fun ok hk => by
      unfold fX12_joins_b284
      refine fin ok _ hk rfl 6 (nI (m - 36)) 0 (fun _ => by rw [hjn]; rfl) (fun _ I' e => ?_) (fun _ T t1 t2 t3 t4 t5 t6 => ⟨t6, ?_⟩)
      · rw [hjn]; exact nd_2 I' hx2 hy2 (gx I' e) (gy I' e) nx4 ny4
      · exact Or.inr (Or.inr (Or.inr (Or.inr (Or.inr (Or.inl ⟨x, y, dx, dy, m - 36, t2, t3, t5, nx5, ny5, lx, ly, Or.inr (Or.inl ⟨t1, by omega, hjn⟩)⟩)))))
    unfold fX12_joins_b269 fX12_joins_b283 fX12_joins_b279
    have g2 : (2 : Int32) ≤ nI (m - 36) ↔ 2 ≤ m - 36 := qi_le (a := 2) (by decide) (by omega)
    have m67 : (Nat.beq m 36 || Nat.beq m 37) = decide (m - 36 < 2) := by
      by_cases u : m - 36 < 2
      · rw [decide_eq_true u]
        rcases (show m = 36 ∨ m = 37 by omega) with v | v <;> rw [v] <;> rfl
      · rw [decide_eq_false u, show Nat.beq m 36 = false from Bool.eq_false_iff.mpr (fun v => by have := qs_beq.mp v; omega), show Nat.beq m 37 = false from Bool.eq_false_iff.mpr (fun v => by have := qs_beq.mp v; omega)]; rfl
    rw [bx, by_, m67] at hok
    rw [mq_num nx3, qc_bds, bx]
    by_cases a1 : dx.1 = 0
    · rw [decide_eq_true a1, if_neg (show ¬ (!true) = true by decide)]
      by_cases a2 : dy.1 = 0
      · rw [bo1 ⟨a1, a2⟩, if_neg (show ¬ (1 : Int32) = 0 by decide)]
        by_cases a3 : 2 ≤ m - 36
        · rw [if_pos (g2.mpr a3)]
          exact node false (by rw [hok, decide_eq_true a1, decide_eq_true a2, decide_eq_false (by omega)]; rfl)
        · rw [if_neg (fun u => a3 (g2.mp u))]
          exact node true (by rw [hok, decide_eq_true a1, decide_eq_true a2, decide_eq_true (by omega)]; rfl)
      · rw [bo0 (fun u => a2 u.2), if_pos rfl]
        exact node false (by rw [hok, decide_eq_true a1, decide_eq_false a2]; rfl)
    · rw [decide_eq_false a1, if_pos (show (!false) = true from rfl), mq_num ny3, qc_bds, by_]
      by_cases a2 : dy.1 = 0
      · rw [decide_eq_true a2, if_neg (show ¬ (!true) = true by decide), bo0 (fun u => a1 u.1), if_pos rfl]
        exact node false (by rw [hok, decide_eq_false a1, decide_eq_true a2]; rfl)
      · rw [decide_eq_false a2, if_pos (show (!false) = true from rfl)]
        exact node true (by rw [hok, decide_eq_false a1, decide_eq_false a2]; rfl)
  rw [if_neg (fun u => z4 (e4.mp u)), s8 z4]
  -- of one kind
  have hmx : max dx.1 dy.1 ≤ 4 := Nat.max_le.mpr ⟨nx3, ny3⟩
  have hop : ∀ m, m < 62 → qs_op m < 1790 := by decide
  by_cases z6 : qs_sv m = 6
  · have n5 : ¬ qs_sv m = 5 := by omega
    rw [if_neg (fun u => n5 (e5.mp u)), if_pos (e6.mpr z6)]
    have hok : qs_fits m dx.1 dy.1 = (qs_wh dx.1 && qs_wh dy.1) := by unfold qs_fits; rw [if_neg z1, if_neg n5, if_pos z6]
    have hjn : qs_join m dx dy = d_bi dx.1 dx.1 1 [(qs_op m + dx.1, 0)] dx dy := by unfold qs_join; rw [if_neg z1, if_pos z6]
    have node : ∀ ok : Bool, ok = qs_fits m dx.1 dy.1 → ∃ I' : qTI, fX12_joins_b397 w G L D R (nI (qs_op m)) (nI at_) (nI y) (nI x) (nI dx.1) (if ok = true then 1 else 0) = some ((), I', L, D, R) ∧ (qs_fits m dx.1 dy.1 = true → mR b q I0 L0 D0 none st o J (ds.length :: P) F (ds ++ [qs_join m dx dy]) I' L D) ∧ (qs_fits m dx.1 dy.1 = false → mR b q I0 L0 D0 (some (4, at_)) st o J (0 :: P) F ds I' L D) := fun ok hk => by
      unfold fX12_joins_b397
      refine fin ok _ hk rfl 7 (nI (qs_op m)) (nI dx.1) (fun _ => by rw [hjn]; rfl) (fun _ I' e => ?_) (fun _ T t1 t2 t3 t4 t5 t6 => ⟨t6, ?_⟩)
      · rw [hjn]; exact nd_2 I' hx2 hy2 (gx I' e) (gy I' e) nx4 ny4
      · exact Or.inr (Or.inr (Or.inr (Or.inr (Or.inr (Or.inl ⟨x, y, dx, dy, qs_op m, t2, t3, t5, nx5, ny5, lx, ly, Or.inr (Or.inr (Or.inl ⟨t1, hop m hm, hjn⟩))⟩)))))
    unfold fX12_joins_b396
    rw [mq_wh nx3, qc_bds]
    cases hwx : qs_wh dx.1 with
    | true =>
      rw [if_pos rfl, mq_wh ny3, qc_bds]
      cases hwy : qs_wh dy.1 with
      | true => rw [if_pos rfl]; exact node true (by rw [hok, hwx, hwy]; rfl)
      | false => rw [if_neg (by decide)]; exact node false (by rw [hok, hwx, hwy]; rfl)
    | false => rw [if_neg (by decide)]; exact node false (by rw [hok, hwx]; rfl)
  have hjn : qs_join m dx dy = d_bi (max dx.1 dy.1) (max dx.1 dy.1) (max dx.1 dy.1) [(qs_op m + qs_ko (max dx.1 dy.1), 0)] dx dy := by unfold qs_join; rw [if_neg z1, if_neg z6, if_neg z4]
  have node : ∀ ok : Bool, ok = qs_fits m dx.1 dy.1 → ∃ I' : qTI, (qc_bd (fX12_needs4 w G L D R (if ok = true then 1 else 0) (nI at_)) fun _ I L D R => qc_bd (fX12_later w I L D R (nI dx.1) (nI dy.1)) fun r16 I L D R => qc_bd (fX12_node w I L D R 5 (nI x) (nI y) 0 (nI (qs_op m)) r16) fun r I L D R => qc_bd (fX12_lay w I L D R r) fun _ I L D R => some ((), I, L, D, R)) = some ((), I', L, D, R) ∧ (qs_fits m dx.1 dy.1 = true → mR b q I0 L0 D0 none st o J (ds.length :: P) F (ds ++ [qs_join m dx dy]) I' L D) ∧ (qs_fits m dx.1 dy.1 = false → mR b q I0 L0 D0 (some (4, at_)) st o J (0 :: P) F ds I' L D) := fun ok hk => by
    have hr : ∀ I L D R, fX12_later w I L D R (nI dx.1) (nI dy.1) = some (nI (max dx.1 dy.1), I, L, D, R) := fun I L D R => mq_later nx3 ny3
    simp only [hr, qc_bds]
    refine fin ok _ hk rfl 5 (nI (qs_op m)) (nI (max dx.1 dy.1)) (fun _ => by rw [hjn]; rfl) (fun _ I' e => ?_) (fun _ T t1 t2 t3 t4 t5 t6 => ⟨t6, ?_⟩)
    · rw [hjn]; exact nd_2 I' hx2 hy2 (gx I' e) (gy I' e) nx4 ny4
    · exact Or.inr (Or.inr (Or.inr (Or.inr (Or.inr (Or.inl ⟨x, y, dx, dy, qs_op m, t2, t3, t5, nx5, ny5, lx, ly, Or.inl ⟨t1, hop m hm, hjn⟩⟩)))))
  by_cases z5 : qs_sv m = 5
  · rw [if_pos (e5.mpr z5)]
    have hok : qs_fits m dx.1 dy.1 = ((Nat.beq dx.1 0 && Nat.beq dy.1 0) || (qs_wh dx.1 && qs_wh dy.1)) := by unfold qs_fits; rw [if_neg z1, if_pos z5]
    unfold fX12_joins_b335 fX12_joins_b339 fX12_joins_b340
    by_cases a1 : dx.1 = 0 ∧ dy.1 = 0
    · rw [bo1 a1, if_neg (by decide)]
      exact node true (by rw [hok, a1.1, a1.2]; rfl)
    · have hf : (Nat.beq dx.1 0 && Nat.beq dy.1 0) = false := Bool.eq_false_iff.mpr (fun u => a1 (by have := Bool.and_eq_true_iff.mp u; exact ⟨qs_beq.mp this.1, qs_beq.mp this.2⟩))
      rw [bo0 a1, if_pos rfl, mq_wh nx3, qc_bds]
      cases hwx : qs_wh dx.1 with
      | true =>
        rw [if_pos rfl, mq_wh ny3, qc_bds]
        cases hwy : qs_wh dy.1 with
        | true => rw [if_pos rfl]; exact node true (by rw [hok, hwx, hwy, hf]; rfl)
        | false => rw [if_neg (by decide)]; exact node false (by rw [hok, hwx, hwy, hf]; rfl)
      | false => rw [if_neg (by decide)]; exact node false (by rw [hok, hwx, hf]; rfl)
  rw [if_neg (fun u => z5 (e5.mp u)), if_neg (fun u => z6 (e6.mp u))]
  have hok : qs_fits m dx.1 dy.1 = (!(Nat.beq dx.1 0) && !(Nat.beq dy.1 0)) := by
    unfold qs_fits
    rw [if_neg z1, if_neg z5, if_neg z6, show (Nat.beq m 36 || Nat.beq m 37) = false from Bool.eq_false_iff.mpr (fun v => by
      rcases Bool.or_eq_true_iff.mp v with y | y
      · have := qs_beq.mp y; exact z4 (s5.mpr (by omega))
      · have := qs_beq.mp y; exact z4 (s5.mpr (by omega))), Bool.and_false, Bool.or_false]
  unfold fX12_joins_b443 fX12_joins_b444
  rw [mq_num nx3, qc_bds]
  cases hwx : Nat.beq dx.1 0 with
  | false =>
    rw [if_pos (show (!false) = true from rfl), mq_num ny3, qc_bds]
    cases hwy : Nat.beq dy.1 0 with
    | false => rw [if_pos (show (!false) = true from rfl)]; exact node true (by rw [hok, hwx, hwy]; rfl)
    | true => rw [if_neg (by decide)]; exact node false (by rw [hok, hwx, hwy]; rfl)
  | true => rw [if_neg (by decide)]; exact node false (by rw [hok, hwx]; rfl)
/-- a sign ahead of a sum: less itself (1200), all bits turned (1300); no -/
theorem mr_joinU {k p y at_ nr : Nat} {dy : qDen} (hk : (k = 9 ∧ (p = 1200 ∨ p = 1300)) ∨ (k = 3 ∧ p = 0)) (h : mR b q I0 L0 D0 none st (o + 1) ((k, p, nI at_) :: J) (y :: P) F ds I L D) (hy : ds[y]? = some dy) (hd : ds.length < 420) (hP : P.length < 418) (hJ : J.length < 420)
    {ok : Bool} {d : qDen} (hok : ok = if k = 9 then (if p = 1200 then !(Nat.beq dy.1 0) else qs_wh dy.1) else Nat.beq dy.1 0) (hd2 : d = if k = 9 then d_un dy.1 dy.1 [(p + dy.1, 0)] dy else d_un 0 dy.1 [(1810, 0)] dy)
    (hD : ok = true → qs_D nr d ∧ d.2.2.1 ≤ 400) :
    ∃ I' : qTI, fX12_joins w I L D R = some ((), I', L, D, R) ∧ (ok = true → mR b q I0 L0 D0 none st o J (ds.length :: P) F (ds ++ [d]) I' L D) ∧ (ok = false → mR b q I0 L0 D0 (some (4, at_)) st o J (0 :: P) F ds I' L D) := by
  obtain ⟨j0, ⟨j1, j2, j3, j4⟩, j5⟩ := h.2.2.2.1
  have hA := mR_j h
  obtain ⟨t1, t2, t3⟩ := mr_taken (w := w) (R := R) hA (by omega)
  obtain ⟨ny1, ny2, ny3, ny4, ny5⟩ := mR_n t2 hy
  have u2 := mR_c t2
  have ey0 : nI dy.1 = 0 ↔ dy.1 = 0 := kz ny3
  have hP2 : P.length < 420 := by omega
  obtain ⟨vy1, vy2, -⟩ := mR_n u2 hy
  obtain ⟨G, hG⟩ : ∃ G, G = qc_u (qc_u (qc_u I 291 28 (nI J.length)) 291 32 (nI P.length)) 291 25 ((qc_u (qc_u I 291 28 (nI J.length)) 291 32 (nI P.length)) 291 25 - 1) := ⟨_, rfl⟩
  rw [← hG] at u2 vy1 vy2
  have ly : (ds ++ [d])[y]? = some dy := ds_up hy
  have gy : ∀ I' : qTI, I' 304 = G 304 → I' 304 y = nI dy.2.1 := fun I' e => by rw [e]; exact vy2
  have fin : ∀ (c : Int32), (c = if ok = true then 1 else 0) → ∀ (x1 x6 : Int32), (ok = true → x6 = nI d.1) → (ok = true → ∀ I' : qTI, I' 304 = G 304 → fX12_needOf w I' L D R x1 (nI y) 0 0 = some (nI d.2.1, I', L, D, R)) →
      (ok = true → ∀ T : qTI, T 298 ds.length = x1 → T 299 ds.length = nI y → T 300 ds.length = 0 → T 301 ds.length = 0 → T 302 ds.length = 0 → (T 303 ds.length = nI d.1 ∧ T 304 ds.length = nI d.2.1 ∧ d.1 ≤ 4 ∧ 1 ≤ d.2.1 ∧ d.2.1 ≤ d.2.2.1 ∧ d.2.2.1 ≤ 400) → nN T (ds ++ [d]) ds.length d) →
      ∃ I' : qTI, (qc_bd (fX12_needs4 w G L D R c (nI at_)) fun _ I L D R => qc_bd (fX12_node w I L D R x1 (nI y) 0 0 0 x6) fun r I L D R => qc_bd (fX12_lay w I L D R r) fun _ I L D R => some ((), I, L, D, R)) = some ((), I', L, D, R) ∧ (ok = true → mR b q I0 L0 D0 none st o J (ds.length :: P) F (ds ++ [d]) I' L D) ∧ (ok = false → mR b q I0 L0 D0 (some (4, at_)) st o J (0 :: P) F ds I' L D) := by
    intro c hc x1 x6 h6 hn hf
    obtain ⟨I', k1, k2, k3⟩ := mr_needs4 (w := w) (R := R) u2 hc (j := at_)
    rw [k1, qc_bds]
    cases ok with
    | true =>
      rw [k2 rfl]
      obtain ⟨g1, g2⟩ := hD rfl
      obtain ⟨I1, I2, n1, n2, n3⟩ := mr_nl (w := w) (R := R) u2 (x5 := 0) hd hP2 g1 g2 (h6 rfl) (hn rfl) (hf rfl)
      rw [n1, qc_bds, n2, qc_bds]
      exact ⟨I2, rfl, fun _ => n3, fun z => (by cases z)⟩
    | false =>
      obtain ⟨I2, n1, n2, n3⟩ := mr_nlE (w := w) (R := R) (k3 rfl) hP2 x1 (nI y) 0 0 0 x6
      rw [n1, qc_bds, n2, qc_bds]
      exact ⟨I2, rfl, fun z => (by cases z), fun _ => n3⟩
  unfold fX12_joins
  rw [j0, List.length_cons, show nI (J.length + 1) - 1 = nI J.length from qi_sub (a := J.length + 1) (b := 1) (by omega)]
  simp only [qc_u_at, qi_inbN hJ (by decide : 420 < 2 ^ 31), qc_gdt, nI_clamp (show J.length < 2 ^ 31 by omega), qc_u_off _ _ (show (306 : Nat) ≠ 291 by decide), qc_u_off _ _ (show (307 : Nat) ≠ 291 by decide), qc_u_off _ _ (show (308 : Nat) ≠ 291 by decide), j1, j2, j3]
  rw [t1, qc_bds, qi_inbN t3 (by decide), qc_gdt, nI_clamp (by omega), ny1, ← hG]
  rcases hk with ⟨k9, kp⟩ | ⟨k3, kp⟩
  · subst k9
    rw [if_pos rfl] at hok hd2
    rw [if_pos (show nI 9 = 9 from rfl)]
    unfold fX12_joins_b92 fX12_joins_b112
    rcases kp with kp | kp
    · subst kp
      rw [if_pos rfl] at hok
      rw [if_pos (show nI 1200 = 1200 from rfl), mq_num ny3, qc_bds, ← hok]
      simp only [if_pos (show nI 1200 = 1200 from rfl)]
      refine fin _ (qc_b_if ok) 8 (nI dy.1) (fun _ => by rw [hd2]; rfl) (fun _ I' e => ?_) (fun _ T t1 t2 t3 t4 t5 t6 => ⟨t6, ?_⟩)
      · rw [hd2]; exact nd_1 (w := w) (d := dy) I' t3 (gy I' e)
      · exact Or.inr (Or.inr (Or.inr (Or.inr (Or.inr (Or.inr (Or.inr ⟨y, dy, 0, t2, t5, ny5, ly, Or.inl ⟨t1, hd2⟩⟩))))))
    · subst kp
      rw [if_neg (by decide)] at hok
      rw [if_neg (show ¬ nI 1300 = 1200 by decide), mq_wh ny3, qc_bds, ← hok]
      simp only [if_neg (show ¬ nI 1300 = 1200 by decide)]
      refine fin _ (qc_b_if ok) 9 (nI dy.1) (fun _ => by rw [hd2]; rfl) (fun _ I' e => ?_) (fun _ T t1 t2 t3 t4 t5 t6 => ⟨t6, ?_⟩)
      · rw [hd2]; exact nd_1 (w := w) (d := dy) I' t3 (gy I' e)
      · exact Or.inr (Or.inr (Or.inr (Or.inr (Or.inr (Or.inr (Or.inr ⟨y, dy, 0, t2, t5, ny5, ly, Or.inr (Or.inl ⟨t1, hd2⟩)⟩))))))
  · subst k3
    rw [if_neg (by decide)] at hok hd2
    rw [if_neg (show ¬ nI 3 = 9 by decide), if_pos (show nI 3 = 3 from rfl)]
    unfold fX12_joins_b152
    have fin2 : ∀ c : Int32, (c = if ok = true then 1 else 0) → _ := fun c hc => fin c hc 12 0 (fun _ => by rw [hd2]; rfl) (fun _ I' e => by rw [hd2]; exact nd_1 (w := w) (d := dy) I' t3 (gy I' e)) (fun _ T t1 t2 t3 t4 t5 t6 => ⟨t6, Or.inr (Or.inr (Or.inr (Or.inr (Or.inr (Or.inr (Or.inr ⟨y, dy, 0, t2, t5, ny5, ly, Or.inr (Or.inr (Or.inl ⟨t1, hd2⟩))⟩))))))⟩)
    by_cases z : dy.1 = 0
    · rw [if_pos (ey0.mpr z)]
      exact fin2 1 (by rw [hok, z]; rfl)
    · rw [if_neg (fun u => z (ey0.mp u))]
      exact fin2 0 (by rw [hok, show Nat.beq dy.1 0 = false from Bool.eq_false_iff.mpr (fun u => z (qs_beq.mp u))]; rfl)
end
