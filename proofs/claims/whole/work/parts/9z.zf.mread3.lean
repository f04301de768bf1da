/-! the reference reads a query: find, fold, set -/
theorem u_cm {α : Type} (f : Nat → Nat → α) {a k j : Nat} (h : j ≠ k) {x y : α} : qc_u (qc_u f a k x) a j y = qc_u (qc_u f a j y) a k x := by
  funext c i
  by_cases z : c = a
  · subst z
    by_cases z1 : i = k
    · subst z1
      rw [qc_u_ne _ _ (Or.inr (fun u => h u.symm)), qc_u_at, qc_u_at]
    · by_cases z2 : i = j
      · subst z2
        rw [qc_u_at, qc_u_ne _ _ (Or.inr z1), qc_u_at]
      · rw [qc_u_ne _ _ (Or.inr z2), qc_u_ne _ _ (Or.inr z1), qc_u_ne _ _ (Or.inr z1), qc_u_ne _ _ (Or.inr z2)]
  · rw [qc_u_ne _ _ (Or.inl z), qc_u_ne _ _ (Or.inl z), qc_u_ne _ _ (Or.inl z), qc_u_ne _ _ (Or.inl z)]
section
variable {w : qcW} {I I0 : qTI} {L L0 : qTL} {D D0 : qTD} {R : qTR} {b ln : Nat → Nat} {len q n : Nat} {τ : Option (Nat × Nat)} {st : qP} {ds : List qDen} {x : qX}
/-- when a fault was told -/
theorem E_78 {e : Nat × Nat} (h : mN b q I0 L0 D0 (some e) x st ds I L D) : fX12_readFind_b78 w I L D R = some ((), I, L, D, R) := by
  unfold fX12_readFind_b78
  rw [mw_8 (mN_tsE h), qc_bds, if_neg (by decide)]
theorem E_54 {e : Nat × Nat} (h : mN b q I0 L0 D0 (some e) x st ds I L D) : ∃ (x' : qX) (st' : qP) (ds' : List qDen) (I' : qTI) (L' : qTL) (D' : qTD), fX12_readFind_b54 w I L D R = some ((), I', L', D', R) ∧ mN b q I0 L0 D0 (some e) x' st' ds' I' L' D' := by
  have h2 := mN_u h (k := 60) (by decide) 0
  refine ⟨x, st, ds, _, L, D, ?_, h2⟩
  unfold fX12_readFind_b54
  rw [mw_7 (mN_tsE h2), qc_bds, if_neg (by decide), E_78 h2]
theorem E_157 {e : Nat × Nat} (h : mN b q I0 L0 D0 (some e) x st ds I L D) : fX12_readFold_b157 w I L D R = some ((), I, L, D, R) := by
  unfold fX12_readFold_b157
  rw [mw_14 (mN_tsE h), qc_bds, if_neg (by decide)]
theorem E_139 {e : Nat × Nat} (h : mN b q I0 L0 D0 (some e) x st ds I L D) : fX12_readFold_b139 w I L D R = some ((), I, L, D, R) := by
  unfold fX12_readFold_b139
  rw [mw_13 (mN_tsE h), qc_bds, if_neg (by decide), E_157 h]
theorem E_133 {e : Nat × Nat} (h : mN b q I0 L0 D0 (some e) x st ds I L D) : fX12_readSet_b133 w I L D R = some ((), I, L, D, R) := by
  unfold fX12_readSet_b133
  rw [mw_13 (mN_tsE h), qc_bds, if_neg (by decide)]
theorem E_id {e : Nat × Nat} {f : qTI → qTL → qTD → qTR → qcO Unit} (h : mN b q I0 L0 D0 (some e) x st ds I L D) (hf : f I L D R = some ((), I, L, D, R)) : ∃ (x' : qX) (st' : qP) (ds' : List qDen) (I' : qTI) (L' : qTL) (D' : qTD), f I L D R = some ((), I', L', D', R) ∧ mN b q I0 L0 D0 (some e) x' st' ds' I' L' D' := ⟨x, st, ds, I, L, D, hf, h⟩
theorem mN_exE {e : Nat × Nat} (h : mN b q I0 L0 D0 (some e) x st ds I L D) (x1 : Int32) : ∃ I' : qTI, fX12_expression w I L D R x1 = some (0, I', L, D, R) ∧ mN b q I0 L0 D0 (some e) x st ds I' L D := by
  obtain ⟨I1, h1, ⟨o, h0, h2⟩, h3⟩ := h
  obtain ⟨I2, k1, k2⟩ := mr_frame (w := w) (R := R) (mB_R h2) (s := 0) (a := 0) (by decide) (by decide) (by decide) 0 0
  have k1 : fX12_frame w (qc_u (qc_u (qc_u I 291 28 0) 291 32 0) 291 34 0) L D R 0 0 0 0 = some ((), I2, L, D, R) := k1
  refine ⟨I2, ?_, I1, h1, ⟨o, fun z => (by cases z), mB_of k2⟩, fun z => (by cases z)⟩
  unfold fX12_expression
  rw [k1, qc_bds]
  exact mE_27 (N := 4095) k2 _ _
theorem mN_sumE {e : Nat × Nat} (h : mN b q I0 L0 D0 (some e) x st ds I L D) : ∃ I' : qTI, fX12_sum w I L D R = some (0, I', L, D, R) ∧ mN b q I0 L0 D0 (some e) x st ds I' L D := by
  obtain ⟨I', k1, k2⟩ := mN_exE (w := w) (R := R) h 1
  refine ⟨I', ?_, k2⟩
  unfold fX12_sum
  rw [k1, qc_bds]
theorem E_cond {e : Nat × Nat} (h : mN b q I0 L0 D0 (some e) x st ds I L D) : ∃ I' : qTI, fX12_readWhere w I L D R = some ((), I', L, D, R) ∧ mN b q I0 L0 D0 (some e) x st ds I' L D := by
  obtain ⟨I', k1, k2⟩ := mN_exE (w := w) (R := R) h 0
  have k3 := mN_u k2 (k := 57) (by decide) 0
  refine ⟨_, ?_, k3⟩
  unfold fX12_readWhere fX12_or
  rw [k1, qc_bds, qc_bds, if_neg (mN_15e k3)]
/-- first .. -/
theorem m_first (hb : qt_B b len) (hS : mS b ln len q I0) (h : mN b q I0 L0 D0 none x st ds I L D) (hG : qs_G b len st) (hd : ds.length ≤ st.1) : mO b len q I0 L0 D0 R (q_first b x st) (fX12_readFind_b78 w I L D R) := by
  have hts := mN_ts (w := w) (R := R) hb hS h ⟨hG.1, hG.2.1⟩
  unfold fX12_readFind_b78 q_first
  rw [mw_8 hts, qc_bds]
  by_cases z : qt_m b st.1 = 8
  · rw [if_pos (decide_eq_true z), if_pos z]
    obtain ⟨I1, L1, D1, k1, k2, k3⟩ := mN_next (w := w) (R := R) hb hS h ⟨hG.1, hG.2.1⟩
    rw [k1, qc_bds]
    cases ha : qs_adv b st with
    | inl e =>
      have m1 := k3 e ha
      have m2 := mN_u m1 (k := 61) (by decide) (I1 291 13)
      unfold fX12_readFind_b116
      rw [if_neg (mN_15e m1), mN_nextE m2, qc_bds]
      exact mO_e m2 rfl
    | inr st1 =>
      have m1 := k2 st1 ha
      obtain ⟨q1, q2, q3⟩ := qs_G_adv hb hG (by omega) ha
      obtain ⟨a1, a2, a3, a4⟩ := mN_15 m1
      have hm := qt_m_lt b st1.1
      have hk : ∀ m, m < 62 → (nI (qt_kd m) = 2 ↔ m = 1) := by decide
      have hk1 := hk (qt_m b st1.1) (by have := q1.2.1; omega)
      show mO b len q I0 L0 D0 R (if qt_m b st1.1 = 1 then _ else _) _
      rw [if_pos a1, a3]
      by_cases y : qt_m b st1.1 = 1
      · rw [if_pos (hk1.mpr y), if_pos y]
        unfold fX12_readFind_b116
        rw [a4 (Or.inl y)]
        have hnv := (qt_num hb y).1
        have m2 : mN b q I0 L0 D0 none (q_fst x (qt_n b st1.1)) st1 ds (qc_u I1 291 61 (nI (qt_n b st1.1))) L1 D1 := mN_s m1 (by decide) _ (fun _ => by
          obtain ⟨J1, z1, z2, z3⟩ := m1
          have hx := z3 rfl
          obtain ⟨x1, x2, x3, x4, x5, x6, x7⟩ := x
          have n : ∀ k, k ≠ 61 → qc_u I1 291 61 (nI (qt_n b st1.1)) 291 k = I1 291 k := fun k hk => qc_u_ne _ _ (Or.inr hk)
          unfold xF q_fst at *
          rw [qc_u_at, n 57 (by decide), n 58 (by decide), n 59 (by decide), n 60 (by decide), n 62 (by decide), n 63 (by decide)]
          exact ⟨hx.1, hx.2.1, hx.2.2.1, hx.2.2.2.1, ⟨rfl, hnv⟩, hx.2.2.2.2.2⟩)
        obtain ⟨I2, L2, D2, f1, f2, f3⟩ := mN_next (w := w) (R := R) hb hS m2 ⟨q1.1, q1.2.1⟩
        rw [f1, qc_bds]
        cases hb2 : qs_adv b st1 with
        | inl e => exact mO_e (f3 e hb2) rfl
        | inr st2 =>
          obtain ⟨p1, p2, p3⟩ := qs_G_adv hb q1 (by omega) hb2
          exact mO_s (s := (q_fst x (qt_n b st1.1), st2)) (f2 st2 hb2) p1 (by show _ ≤ st2.1; omega) rfl
      · rw [if_neg (fun u => y (hk1.mp u)), if_neg y, a2]
        obtain ⟨I2, f1, f2⟩ := mN_fail (w := w) (R := R) m1 (k := 2) (j := qt_from b st1.1) (by decide)
        have f1 : fX12_fail w I1 L1 D1 R 2 (nI (qt_from b st1.1)) = some ((), I2, L1, D1, R) := f1
        have m2 := mN_u f2 (k := 61) (by decide) (I2 291 13)
        unfold fX12_readFind_b116
        rw [f1, qc_bds, mN_nextE m2, qc_bds]
        exact mO_e m2 rfl
  · rw [if_neg (fun u => z (of_decide_eq_true u)), if_neg z]
    exact mO_s (s := (x, st)) h hG hd rfl
theorem m_down (hb : qt_B b len) (hS : mS b ln len q I0) (h : mN b q I0 L0 D0 none x st ds I L D) (hG : qs_G b len st) (hd : ds.length ≤ st.1) {gs : qXS → qR qXS} (hg : ∀ s ds I L D, q_down b x st = .inr s → mN b q I0 L0 D0 none s.1 s.2 ds I L D → qs_G b len s.2 → ds.length ≤ s.2.1 → mO b len q I0 L0 D0 R (gs s) (fX12_readFind_b78 w I L D R)) : mO b len q I0 L0 D0 R (qs_b (q_down b x st) gs) (fX12_readFind_b54 w I L D R) := by
  have up : ∀ (v : Nat), v ≤ 1 → ∀ {I : qTI} {x0 : qX}, (x0.1 = x.1 ∧ x0.2.1 = x.2.1 ∧ x0.2.2.1 = x.2.2.1 ∧ x0.2.2.2.2 = x.2.2.2.2) → mN b q I0 L0 D0 none x0 st ds I L D → mN b q I0 L0 D0 none (q_ord x (v + 1)) st ds (qc_u I 291 60 (nI v)) L D := fun v hv {I x0} he h => mN_s h (by decide) _ (fun _ => by
    obtain ⟨J1, z1, z2, z3⟩ := h
    have hx := z3 rfl
    obtain ⟨x1, x2, x3, x4, x5, x6, x7⟩ := x
    obtain ⟨y1, y2, y3, y4, y5, y6, y7⟩ := x0
    obtain ⟨e1, e2, e3, e4⟩ := he
    have n : ∀ k, k ≠ 60 → qc_u I 291 60 (nI v) 291 k = I 291 k := fun k hk => qc_u_ne _ _ (Or.inr hk)
    simp only at e1 e2 e3 e4
    subst e1 e2 e3
    cases e4
    unfold xF q_ord at *
    rw [qc_u_at, n 57 (by decide), n 58 (by decide), n 59 (by decide), n 61 (by decide), n 62 (by decide), n 63 (by decide)]
    exact ⟨hx.1, hx.2.1, hx.2.2.1, ⟨by show v + 1 ≤ 2; omega, by show nI v = if v + 1 = 0 then -1 else nI (v + 1 - 1); rw [if_neg (by omega), Nat.add_sub_cancel]⟩, hx.2.2.2.2⟩)
  have h1 := up 0 (by decide) ⟨rfl, rfl, rfl, rfl⟩ h
  have h1 : mN b q I0 L0 D0 none (q_ord x 1) st ds (qc_u I 291 60 0) L D := h1
  have hts := mN_ts (w := w) (R := R) hb hS h1 ⟨hG.1, hG.2.1⟩
  unfold fX12_readFind_b54 q_down
  unfold q_down at hg
  rw [mw_7 hts, qc_bds]
  by_cases z : qt_m b st.1 = 7
  · rw [if_pos z] at hg
    rw [if_pos (decide_eq_true z), if_pos z]
    have h2 := up 1 (by decide) (x0 := q_ord x 1) ⟨rfl, rfl, rfl, rfl⟩ h1
    have h2 : mN b q I0 L0 D0 none (q_ord x 2) st ds (qc_u (qc_u I 291 60 0) 291 60 1) L D := h2
    obtain ⟨I1, L1, D1, k1, k2, k3⟩ := mN_next (w := w) (R := R) hb hS h2 ⟨hG.1, hG.2.1⟩
    rw [k1, qc_bds]
    cases ha : qs_adv b st with
    | inl e =>
      have m1 := k3 e ha
      exact mO_e m1 (E_78 m1)
    | inr st1 =>
      rw [ha] at hg
      obtain ⟨q1, q2, q3⟩ := qs_G_adv hb hG (by omega) ha
      exact hg (q_ord x 2, st1) ds I1 L1 D1 rfl (k2 st1 ha) q1 (by show _ ≤ st1.1; omega)
  · rw [if_neg z] at hg
    rw [if_neg (fun u => z (of_decide_eq_true u)), if_neg z]
    exact hg (q_ord x 1, st) ds _ L D rfl h1 hG hd
theorem m_find (hb : qt_B b len) (hS : mS b ln len q I0) (hln : ∀ c, c < 10 → ln c ≤ 8) (h : mN b q I0 L0 D0 none x st ds I L D) (hG : qs_G b len st) (hd : ds.length ≤ st.1) : mO b len q I0 L0 D0 R (q_find b ln qN x st) (fX12_readFind w I L D R) := by
  unfold fX12_readFind q_find
  refine mO_b (m_cond hb hS hln h hG hd) (fun s ds1 I1 L1 D1 hr m1 hG1 hd1 => ?_) (fun e x st ds I L D hn => E_id (f := fun I L D R => qc_bd (fX12_isWord w I L D R (16322738 : Int64)) _) hn (by simp only [mw_6 (mN_tsE hn), qc_bds]; rw [if_neg (by decide), E_78 hn]))
  have hts := mN_ts (w := w) (R := R) hb hS m1 ⟨hG1.1, hG1.2.1⟩
  rw [mw_6 hts, qc_bds]
  unfold q_order
  by_cases z : qt_m b s.2.1 = 6
  · rw [if_pos (decide_eq_true z), if_pos z]
    obtain ⟨I2, L2, D2, k1, k2, k3⟩ := mN_next (w := w) (R := R) hb hS m1 ⟨hG1.1, hG1.2.1⟩
    rw [k1, qc_bds, qs_bb]
    cases ha : qs_adv b s.2 with
    | inl e =>
      have m2 := k3 e ha
      obtain ⟨I3, f1, f2⟩ := mN_sumE (w := w) (R := R) m2
      have f3 := mN_u f2 (k := 58) (by decide) 0
      obtain ⟨x', st', ds', I4, L4, D4, g1, g2⟩ := E_54 (w := w) (R := R) f3
      rw [f1, qc_bds, if_neg (mN_15e f3), g1]
      exact mO_e g2 rfl
    | inr st1 =>
      obtain ⟨q1, q2, q3⟩ := qs_G_adv hb hG1 (by omega) ha
      show mO b len q I0 L0 D0 R (qs_b (qs_b (q_main b ln qN s.1 st1) fun s => q_down b s.1 s.2) fun s => q_first b s.1 s.2) _
      rw [qs_bb]
      exact m_main hb hS hln (k2 st1 ha) q1 (by omega) (fun s2 ds2 I3 L3 D3 hr2 m3 hG3 hd3 => m_down hb hS m3 hG3 hd3 (fun s3 ds3 I4 L4 D4 _ m4 hG4 hd4 => m_first hb hS m4 hG4 hd4)) (fun e x st ds I L D hn => E_54 hn)
  · rw [if_neg (fun u => z (of_decide_eq_true u)), if_neg z]
    exact m_first hb hS m1 hG1 hd1
/-- where .., then what follows -/
theorem m_where (hb : qt_B b len) (hS : mS b ln len q I0) (hln : ∀ c, c < 10 → ln c ≤ 8) (h : mN b q I0 L0 D0 none x st ds I L D) (hG : qs_G b len st) (hd : ds.length ≤ st.1) {g : qTI → qTL → qTD → qTR → qcO Unit} {gs : qXS → qR qXS}
    (hok : ∀ s ds I L D, q_where b ln qN x st = .inr s → mN b q I0 L0 D0 none s.1 s.2 ds I L D → qs_G b len s.2 → ds.length ≤ s.2.1 → mO b len q I0 L0 D0 R (gs s) (g I L D R))
    (herr : ∀ e x st ds I L D, mN b q I0 L0 D0 (some e) x st ds I L D → g I L D R = some ((), I, L, D, R)) :
    mO b len q I0 L0 D0 R (qs_b (q_where b ln qN x st) gs) (qc_bd (fX12_isWord w I L D R (24385093 : Int64)) fun r10 I10 L10 D10 R10 => if r10 = true then (qc_bd (fX12_next w I10 L10 D10 R10) fun r12 I12 L12 D12 R12 => qc_bd (fX12_readWhere w I12 L12 D12 R12) fun r13 I13 L13 D13 R13 => g I13 L13 D13 R13) else (g I10 L10 D10 R10)) := by
  have hts := mN_ts (w := w) (R := R) hb hS h ⟨hG.1, hG.2.1⟩
  unfold q_where at hok ⊢
  rw [mw_13 hts, qc_bds]
  by_cases z : qt_m b st.1 = 13
  · rw [if_pos z] at hok
    rw [if_pos (decide_eq_true z), if_pos z]
    obtain ⟨I2, L2, D2, k1, k2, k3⟩ := mN_next (w := w) (R := R) hb hS h ⟨hG.1, hG.2.1⟩
    rw [k1, qc_bds, qs_bb]
    cases ha : qs_adv b st with
    | inl e =>
      obtain ⟨I3, f1, f2⟩ := E_cond (w := w) (R := R) (k3 e ha)
      rw [f1, qc_bds, herr _ _ _ _ _ _ _ f2]
      exact mO_e f2 rfl
    | inr st1 =>
      rw [ha] at hok
      obtain ⟨q1, q2, q3⟩ := qs_G_adv hb hG (by omega) ha
      exact mO_b (m_cond hb hS hln (k2 st1 ha) q1 (by omega)) (fun s ds1 I1 L1 D1 hr m1 hG1 hd1 => hok s ds1 I1 L1 D1 hr m1 hG1 hd1) (fun e x st ds I L D hn => E_id (f := g) hn (herr _ _ _ _ _ _ _ hn))
  · rw [if_neg z] at hok
    rw [if_neg (fun u => z (of_decide_eq_true u)), if_neg z]
    exact hok (x, st) ds I L D rfl h hG hd
theorem m_by (hb : qt_B b len) (hS : mS b ln len q I0) (hln : ∀ c, c < 10 → ln c ≤ 8) (h : mN b q I0 L0 D0 none x st ds I L D) (hG : qs_G b len st) (hd : ds.length ≤ st.1) : mO b len q I0 L0 D0 R (q_by b ln qN x st) (fX12_readFold_b157 w I L D R) := by
  have hts := mN_ts (w := w) (R := R) hb hS h ⟨hG.1, hG.2.1⟩
  unfold fX12_readFold_b157 q_by
  rw [mw_14 hts, qc_bds]
  by_cases z : qt_m b st.1 = 14
  · rw [if_pos (decide_eq_true z), if_pos z]
    obtain ⟨I2, L2, D2, k1, k2, k3⟩ := mN_next (w := w) (R := R) hb hS h ⟨hG.1, hG.2.1⟩
    rw [k1, qc_bds]
    cases ha : qs_adv b st with
    | inl e =>
      obtain ⟨I3, f1, f2⟩ := mN_sumE (w := w) (R := R) (k3 e ha)
      have f3 := mN_u f2 (k := 59) (by decide) 0
      rw [f1, qc_bds, if_neg (mN_15e f3)]
      exact mO_e f3 rfl
    | inr st1 =>
      have m1 := k2 st1 ha
      obtain ⟨q1, q2, q3⟩ := qs_G_adv hb hG (by omega) ha
      have hv := mN_x (R := R) hS m1 (fun I1 h1 h2 => mx_sum (w := w) hb h1 hln h2 q1 (by omega) (qn_0 hb hln q1))
      show mO b len q I0 L0 D0 R (qs_b (qs_p b ln qN 0 0 0 0 (d_lf 0 []) st1) _) _
      cases hr : qs_p b ln qN 0 0 0 0 (d_lf 0 []) st1 with
      | inl e =>
        obtain ⟨st', ds', I', L', D', e1, e2⟩ := hv.2 e hr
        have e3 := mN_u e2 (k := 59) (by decide) 0
        rw [e1, qc_bds, if_neg (mN_15e e3)]
        exact mO_e e3 rfl
      | inr r =>
        obtain ⟨y, t, I', L', D', e1, e2, e3, e4, e5⟩ := hv.1 r hr
        obtain ⟨p1, p2, p3, p4⟩ := good0 hb hln q1 hr
        have hl := hb.1
        have hq1 := p1.1
        obtain ⟨c1, c2, c3⟩ := e5.resolve_right (by omega)
        obtain ⟨xw, xm, xb, x2⟩ := x
        have e6 : mN b q I0 L0 D0 none (xw, xm, some r.1, x2) r.2 (ds ++ t) (qc_u I' 291 59 (nI y)) L' D' := mN_s e2 (by decide) (nI y) (fun _ => by
          obtain ⟨I1, z1, z2, z3⟩ := e2
          have hx := z3 rfl
          have n : ∀ k, k ≠ 59 → qc_u I' 291 59 (nI y) 291 k = I' 291 k := fun k hk => qc_u_ne _ _ (Or.inr hk)
          unfold xF at hx ⊢
          rw [qc_u_at, n 57 (by decide), n 58 (by decide), n 60 (by decide), n 61 (by decide), n 62 (by decide), n 63 (by decide)]
          exact ⟨hx.1, hx.2.1, ⟨y, rfl, e3⟩, hx.2.2.2⟩)
        rw [e1, qc_bds, if_pos (mN_15 e6).1, qc_u_at, qi_inbN c3 (by decide), qc_gdt, nI_clamp (by omega), qc_u_off _ _ (by decide), c1, mq_wh c2, qc_bds]
        show mO b len q I0 L0 D0 R (qs_fit _ _ _) _
        unfold qs_fit
        cases hwh : qs_wh r.1.1 with
        | true =>
          rw [if_pos rfl, if_pos rfl]
          exact mO_s e6 p1 e4 rfl
        | false =>
          rw [if_neg (by decide), if_neg (by decide), (mN_15 e6).2.1]
          obtain ⟨I5, f1, f2⟩ := mN_fail (w := w) (R := R) e6 (k := 4) (j := qt_from b r.2.1) (by decide)
          have f1 : fX12_fail w (qc_u I' 291 59 (nI y)) L' D' R 4 (nI (qt_from b r.2.1)) = some ((), I5, L', D', R) := f1
          rw [f1, qc_bds]
          exact mO_e f2 rfl
  · rw [if_neg (fun u => z (of_decide_eq_true u)), if_neg z]
    exact mO_s (s := (x, st)) h hG hd rfl
theorem m_139 (hb : qt_B b len) (hS : mS b ln len q I0) (hln : ∀ c, c < 10 → ln c ≤ 8) (h : mN b q I0 L0 D0 none x st ds I L D) (hG : qs_G b len st) (hd : ds.length ≤ st.1) : mO b len q I0 L0 D0 R (qs_b (q_where b ln qN x st) fun s => q_by b ln qN s.1 s.2) (fX12_readFold_b139 w I L D R) := by
  unfold fX12_readFold_b139
  exact m_where hb hS hln h hG hd (fun s ds1 I1 L1 D1 _ m1 hG1 hd1 => m_by hb hS hln m1 hG1 hd1) (fun e x st ds I L D hn => E_157 hn)
theorem m_fold (hb : qt_B b len) (hS : mS b ln len q I0) (hln : ∀ c, c < 10 → ln c ≤ 8) (h : mN b q I0 L0 D0 none x st ds I L D) (hG : qs_G b len st) (hd : ds.length ≤ st.1) : mO b len q I0 L0 D0 R (q_fold b ln qN x st) (fX12_readFold w I L D R) := by
  have hts := mN_ts (w := w) (R := R) hb hS h ⟨hG.1, hG.2.1⟩
  have e72 : fX12_readFold w I L D R = fX12_readFold_b72 w I L D R (if q_hw (qt_m b st.1) = 5 then -1 else nI (q_hw (qt_m b st.1))) := by
    unfold fX12_readFold q_hw
    simp only [mw_10 hts, mw_11 hts, mw_27 hts, mw_28 hts, mw_12 hts, qc_bds, decide_eq_true_eq]
    repeat' split
    all_goals first | rfl | omega
  have hhw : q_hw (qt_m b st.1) ≤ 5 := by
    unfold q_hw
    repeat' split
    all_goals omega
  rw [e72]
  unfold fX12_readFold_b72 q_fold
  have up : ∀ v : Nat, v ≤ 4 → mN b q I0 L0 D0 none (q_how x v) st ds (qc_u I 291 62 (nI v)) L D := fun v hv => mN_s h (by decide) _ (fun _ => by
    obtain ⟨J1, z1, z2, z3⟩ := h
    have hx := z3 rfl
    obtain ⟨x1, x2, x3, x4, x5, x6, x7⟩ := x
    have n : ∀ k, k ≠ 62 → qc_u I 291 62 (nI v) 291 k = I 291 k := fun k hk => qc_u_ne _ _ (Or.inr hk)
    unfold xF q_how at *
    rw [qc_u_at, n 57 (by decide), n 58 (by decide), n 59 (by decide), n 60 (by decide), n 61 (by decide), n 63 (by decide)]
    exact ⟨hx.1, hx.2.1, hx.2.2.1, hx.2.2.2.1, hx.2.2.2.2.1, ⟨by show v ≤ 5; omega, by show nI v = if v = 5 then -1 else nI v; rw [if_neg (by omega)]⟩, hx.2.2.2.2.2.2⟩)
  by_cases z5 : q_hw (qt_m b st.1) = 5
  · rw [if_pos z5, if_pos z5, qc_u_at, if_pos rfl]
    obtain ⟨a1, a2, a3, a4⟩ := mN_15 h
    -- the fault, told ahead of the word
    obtain ⟨I2, f1, f2⟩ := mN_fail (w := w) (R := R) h (k := 2) (j := qt_from b st.1) (by decide)
    have f3 := mN_u f2 (k := 62) (by decide) (-1)
    have e1 : fX12_fail w (qc_u I 291 62 (-1)) L D R 2 ((qc_u I 291 62 (-1)) 291 10) = some ((), qc_u (qc_u (qc_u I 291 62 (-1)) 291 15 2) 291 16 (nI (qt_from b st.1)), L, D, R) := by
      rw [mx_fail (by rw [qc_u_ne _ _ (Or.inr (by decide))]; exact a1), qc_u_ne _ _ (Or.inr (by decide)), a2]
    have hI2 : I2 = qc_u (qc_u I 291 15 2) 291 16 (nI (qt_from b st.1)) := by
      have e := mx_fail (w := w) (L := L) (D := D) (R := R) a1 (nI 2) (nI (qt_from b st.1))
      rw [e] at f1
      cases f1
      rfl
    have hcm : qc_u I2 291 62 (-1) = qc_u (qc_u (qc_u I 291 62 (-1)) 291 15 2) 291 16 (nI (qt_from b st.1)) := by rw [hI2, u_cm _ (show 62 ≠ 16 by decide), u_cm _ (show 62 ≠ 15 by decide)]
    rw [e1, qc_bds, ← hcm]
    unfold fX12_readFold_b92
    obtain ⟨I3, g1, g2⟩ := mN_sumE (w := w) (R := R) f3
    have g3 := mN_u g2 (k := 58) (by decide) 0
    rw [mN_nextE f3, qc_bds, if_neg (by rw [qc_u_at]; decide), g1, qc_bds, if_neg (mN_15e g3), E_139 g3]
    exact mO_e g3 rfl
  · rw [if_neg z5, if_neg z5, qc_u_at, if_neg (qi_nI_m1 (by omega))]
    have m0 := up (q_hw (qt_m b st.1)) (by omega)
    unfold fX12_readFold_b92
    obtain ⟨I2, L2, D2, k1, k2, k3⟩ := mN_next (w := w) (R := R) hb hS m0 ⟨hG.1, hG.2.1⟩
    have hm0 : qt_m b st.1 ≠ 0 := fun u => z5 (by rw [u]; rfl)
    rw [k1, qc_bds]
    cases ha : qs_adv b st with
    | inl e =>
      have m1 := k3 e ha
      obtain ⟨I3, g1, g2⟩ := mN_sumE (w := w) (R := R) m1
      have g3 := mN_u g2 (k := 58) (by decide) 0
      by_cases u : I2 291 62 = 0
      · rw [if_pos u, E_139 m1]; exact mO_e m1 rfl
      · rw [if_neg u, g1, qc_bds, if_neg (mN_15e g3), E_139 g3]; exact mO_e g3 rfl
    | inr st1 =>
      have m1 := k2 st1 ha
      obtain ⟨q1, q2, q3⟩ := qs_G_adv hb hG hm0 ha
      have h62 : I2 291 62 = nI (q_hw (qt_m b st.1)) := by
        obtain ⟨J1, z1, z2, z3⟩ := m1
        have hx := (z3 rfl).2.2.2.2.2.1.2
        have hx : I2 291 62 = if q_hw (qt_m b st.1) = 5 then -1 else nI (q_hw (qt_m b st.1)) := hx
        rw [hx, if_neg z5]
      have e0 : I2 291 62 = 0 ↔ q_hw (qt_m b st.1) = 0 := by rw [h62]; exact qi_nI_inj' (j := 0) (by omega) (by decide)
      show mO b len q I0 L0 D0 R (qs_b (if q_hw (qt_m b st.1) = 0 then _ else _) _) _
      by_cases y : q_hw (qt_m b st.1) = 0
      · rw [if_pos (e0.mpr y), if_pos y]
        rw [y] at m1
        exact m_139 hb hS hln m1 q1 (by show _ ≤ st1.1; omega)
      · rw [if_neg (fun u => y (e0.mp u)), if_neg y]
        exact m_main hb hS hln m1 q1 (by omega) (fun s2 ds2 I3 L3 D3 hr2 m3 hG3 hd3 => m_139 hb hS hln m3 hG3 hd3) (fun e x st ds I L D hn => E_id (f := fun I L D R => fX12_readFold_b139 w I L D R) hn (E_139 hn))
end
