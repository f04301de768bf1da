/-! the reference reads a query: set, and all -/
section
variable {w : qcW} {I I0 : qTI} {L L0 : qTL} {D D0 : qTD} {R : qTR} {b ln : Nat → Nat} {len q n : Nat} {τ : Option (Nat × Nat)} {st : qP} {ds : List qDen} {x : qX}
theorem mN_15p {e : Nat × Nat} (h : mN b q I0 L0 D0 (some e) x st ds I L D) : ¬ I 291 15 ≤ 0 := by
  obtain ⟨I1, h1, ⟨o, h0, h2⟩, h3⟩ := h
  exact mB_15p h2
theorem mN_c (hS : mS b ln len q I0) (h : mN b q I0 L0 D0 τ x st ds I L D) {c : Nat} (hc : c < 10) : (I 292 c = -1 ∧ ln c = 8) ∨ ∃ i, i < 11 ∧ I 292 c = nI i ∧ I 293 i = nI (ln c) ∧ ln c < 8 := by
  obtain ⟨I1, h1, ⟨o, h0, h2⟩, h3⟩ := h
  exact mb_col (mS_1 hS h1) h2 hc
/-- a column -/
theorem mN_col (hb : qt_B b len) (hS : mS b ln len q I0) (h : mN b q I0 L0 D0 none x st ds I L D) (hG : qs_G b len st) (h3 : qt_m b st.1 = 3) : ∃ (I' : qTI) (L' : qTL) (D' : qTD), fX12_column_ w I L D R = some (nI (qt_n b st.1), I', L', D', R) ∧ (ln (qt_n b st.1) = 8 → mN b q I0 L0 D0 (some (5, qt_from b st.1)) x st ds I' L' D') ∧ (ln (qt_n b st.1) ≠ 8 → (∀ st', qs_adv b st = .inr st' → mN b q I0 L0 D0 none x st' ds I' L' D') ∧ ∀ e, qs_adv b st = .inl e → mN b q I0 L0 D0 (some e) x st ds I' L' D') := by
  have hc := (qt_col hb h3).1
  obtain ⟨a1, a2, a3, a4⟩ := mN_15 h
  unfold fX12_column_ fX12_column__b31
  rw [if_pos a1, a4 (Or.inr h3), qi_inbN hc (by decide), qc_gdt, nI_clamp (by omega), a2]
  rcases mN_c hS h hc with ⟨z1, z2⟩ | ⟨i, z1, z2, z3, z4⟩
  · obtain ⟨I1, k1, k2⟩ := mN_fail (w := w) (R := R) h (k := 5) (j := qt_from b st.1) (by decide)
    have k1 : fX12_fail w I L D R 5 (nI (qt_from b st.1)) = some ((), I1, L, D, R) := k1
    rw [if_pos z1, k1, qc_bds, mN_nextE k2, qc_bds]
    exact ⟨I1, L, D, rfl, fun _ => k2, fun u => absurd z2 u⟩
  · obtain ⟨I1, L1, D1, k1, k2, k3⟩ := mN_next (w := w) (R := R) hb hS h ⟨hG.1, hG.2.1⟩
    rw [if_neg (by rw [z2]; exact qi_nI_m1 (by omega)), k1, qc_bds]
    exact ⟨I1, L1, D1, rfl, fun u => (by omega), fun _ => ⟨k2, k3⟩⟩
theorem E_66 {e : Nat × Nat} (h : mN b q I0 L0 D0 (some e) x st ds I L D) (y : Int32) : ∃ I' : qTI, fX12_readSet_b66 w I L D R y = some ((), I', L, D, R) ∧ mN b q I0 L0 D0 (some e) x st ds I' L D := by
  obtain ⟨I3, g1, g2⟩ := mN_sumE (w := w) (R := R) h
  have g3 := mN_u g2 (k := 58) (by decide) 0
  refine ⟨_, ?_, g3⟩
  unfold fX12_readSet_b66
  rw [mN_nextE h, qc_bds, g1, qc_bds, if_neg (mN_15e g3), E_133 g3]
theorem m_133 (hb : qt_B b len) (hS : mS b ln len q I0) (hln : ∀ c, c < 10 → ln c ≤ 8) (h : mN b q I0 L0 D0 none x st ds I L D) (hG : qs_G b len st) (hd : ds.length ≤ st.1) : mO b len q I0 L0 D0 R (q_where b ln qN x st) (fX12_readSet_b133 w I L D R) := by
  have := m_where (w := w) (R := R) hb hS hln h hG hd (g := fun I L D R => some ((), I, L, D, R)) (gs := fun s => .inr s) (fun s ds1 I1 L1 D1 _ m1 hG1 hd1 => mO_s m1 hG1 hd1 rfl) (fun e x st ds I L D hn => rfl)
  have e : qs_b (q_where b ln qN x st) (fun s => .inr s) = q_where b ln qN x st := by
    cases q_where b ln qN x st <;> rfl
  rw [e] at this
  exact this
theorem m_set (hb : qt_B b len) (hS : mS b ln len q I0) (hln : ∀ c, c < 10 → ln c ≤ 8) (h : mN b q I0 L0 D0 none x st ds I L D) (hG : qs_G b len st) (hd : ds.length ≤ st.1) : mO b len q I0 L0 D0 R (q_set b ln qN x st) (fX12_readSet w I L D R) := by
  obtain ⟨a1, a2, a3, a4⟩ := mN_15 h
  have hm := qt_m_lt b st.1
  have hm63 := hG.2.1
  have hk : ∀ m, m < 62 → (nI (qt_kd m) = 4 ↔ m = 3) := by decide
  have hk1 := hk (qt_m b st.1) (by omega)
  unfold fX12_readSet q_set
  rw [if_pos a1, a3]
  by_cases z : qt_m b st.1 = 3
  · rw [if_pos (hk1.mpr z), if_pos z]
    have hc := (qt_col hb z).1
    unfold fX12_readSet_b24
    rw [if_pos (show I 291 15 ≤ 0 by rw [a1]; decide)]
    obtain ⟨I1, L1, D1, k1, k2, k3⟩ := mN_col (w := w) (R := R) hb hS h hG z
    rw [k1, qc_bds]
    -- an error, to the end
    have bad : ∀ {e : Nat × Nat}, mN b q I0 L0 D0 (some e) x st ds I1 L1 D1 → mO b len q I0 L0 D0 R (.inl e) (qc_bd (fX12_isSign w (qc_u I1 291 63 (nI (qt_n b st.1))) L1 D1 R (58 : Int32) (61 : Int32) (0 : Int32)) fun r17 I17 L17 D17 R17 => if r17 = true then (fX12_readSet_b66 w I17 L17 D17 R17 ((qc_u I1 291 63 (nI (qt_n b st.1))) 291 10)) else (qc_bd (fX12_fail w I17 L17 D17 R17 (2 : Int32) (I17 291 10)) fun r19 I19 L19 D19 R19 => fX12_readSet_b66 w I19 L19 D19 R19 ((qc_u I1 291 63 (nI (qt_n b st.1))) 291 10))) := fun {e} hn => by
      have h2 := mN_u hn (k := 63) (by decide) (nI (qt_n b st.1))
      obtain ⟨I5, g1, g2⟩ := E_66 (w := w) (R := R) h2 ((qc_u I1 291 63 (nI (qt_n b st.1))) 291 10)
      rw [ms_61 (mN_tsE h2), qc_bds, if_neg (by decide), mN_failE h2, qc_bds, g1]
      exact mO_e g2 rfl
    by_cases y : ln (qt_n b st.1) = 8
    · rw [if_pos y]
      exact bad (k2 y)
    · rw [if_neg y]
      obtain ⟨k4, k5⟩ := k3 y
      cases ha : qs_adv b st with
      | inl e => exact bad (k5 e ha)
      | inr st1 =>
        have m1 := k4 st1 ha
        obtain ⟨q1, q2, q3⟩ := qs_G_adv hb hG (by omega) ha
        have m2 : mN b q I0 L0 D0 none (x.1, x.2.1, x.2.2.1, x.2.2.2.1, x.2.2.2.2.1, x.2.2.2.2.2.1, some (qt_n b st.1)) st1 ds (qc_u I1 291 63 (nI (qt_n b st.1))) L1 D1 := mN_s m1 (by decide) _ (fun _ => by
          obtain ⟨J1, z1, z2, z3⟩ := m1
          have hx := z3 rfl
          obtain ⟨x1, x2, x3, x4, x5, x6, x7⟩ := x
          have n : ∀ k, k ≠ 63 → qc_u I1 291 63 (nI (qt_n b st.1)) 291 k = I1 291 k := fun k hk => qc_u_ne _ _ (Or.inr hk)
          unfold xF at *
          rw [qc_u_at, n 57 (by decide), n 58 (by decide), n 59 (by decide), n 60 (by decide), n 61 (by decide), n 62 (by decide)]
          exact ⟨hx.1, hx.2.1, hx.2.2.1, hx.2.2.2.1, hx.2.2.2.2.1, hx.2.2.2.2.2.1, rfl, hc⟩)
        have hts2 := mN_ts (w := w) (R := R) hb hS m2 ⟨q1.1, q1.2.1⟩
        obtain ⟨b1, b2, b3, b4⟩ := mN_15 m2
        rw [ms_61 hts2, qc_bds, b2]
        show mO b len q I0 L0 D0 R (qs_b (qs_ex b 61 st1) _) _
        unfold qs_ex
        by_cases u : qt_m b st1.1 = 61
        · rw [if_pos (decide_eq_true u), if_pos u]
          unfold fX12_readSet_b66
          obtain ⟨I2, L2, D2, f1, f2, f3⟩ := mN_next (w := w) (R := R) hb hS m2 ⟨q1.1, q1.2.1⟩
          rw [f1, qc_bds]
          cases hb2 : qs_adv b st1 with
          | inl e =>
            have m3 := f3 e hb2
            obtain ⟨I3, g1, g2⟩ := mN_sumE (w := w) (R := R) m3
            have g3 := mN_u g2 (k := 58) (by decide) 0
            rw [g1, qc_bds, if_neg (mN_15e g3), E_133 g3]
            exact mO_e g3 rfl
          | inr st2 =>
            have m3 := f2 st2 hb2
            obtain ⟨r1, r2, r3⟩ := qs_G_adv hb q1 (by omega) hb2
            have hv := mN_x (R := R) hS m3 (fun I1 h1 h2 => mx_sum (w := w) hb h1 hln h2 r1 (by omega) (qn_0 hb hln r1))
            show mO b len q I0 L0 D0 R (qs_b (qs_p b ln qN 0 0 0 0 (d_lf 0 []) st2) _) _
            cases hr : qs_p b ln qN 0 0 0 0 (d_lf 0 []) st2 with
            | inl e =>
              obtain ⟨st', ds', I', L', D', e1, e2⟩ := hv.2 e hr
              have e3 := mN_u e2 (k := 58) (by decide) 0
              rw [e1, qc_bds, if_neg (mN_15e e3), E_133 e3]
              exact mO_e e3 rfl
            | inr r =>
              obtain ⟨yy, t, I', L', D', e1, e2, e3, e4, e5⟩ := hv.1 r hr
              obtain ⟨p1, p2, p3, p4⟩ := good0 hb hln r1 hr
              have hl := hb.1
              have hq1 := p1.1
              obtain ⟨c1, c2, c3⟩ := e5.resolve_right (by omega)
              have e6 : mN b q I0 L0 D0 none (q_to x r.1 (qt_n b st.1)) r.2 (ds ++ t) (qc_u I' 291 58 (nI yy)) L' D' := mN_s e2 (by decide) (nI yy) (fun _ => by
                obtain ⟨J1, z1, z2, z3⟩ := e2
                have hx := z3 rfl
                obtain ⟨x1, x2, x3, x4, x5, x6, x7⟩ := x
                have n : ∀ k, k ≠ 58 → qc_u I' 291 58 (nI yy) 291 k = I' 291 k := fun k hk => qc_u_ne _ _ (Or.inr hk)
                unfold xF q_to at *
                rw [qc_u_at, n 57 (by decide), n 59 (by decide), n 60 (by decide), n 61 (by decide), n 62 (by decide), n 63 (by decide)]
                exact ⟨hx.1, ⟨yy, rfl, e3⟩, hx.2.2⟩)
              have hset : (qc_u I' 291 58 (nI yy)) 291 63 = nI (qt_n b st.1) := by
                obtain ⟨J1, z1, z2, z3⟩ := e6
                exact (z3 rfl).2.2.2.2.2.2.1
              obtain ⟨i, i1, i2, i3, i4⟩ := (mN_c hS e6 hc).resolve_left (fun v => y v.2)
              have z0 : nI r.1.1 = 0 ↔ r.1.1 = 0 := kz c2
              have l0 : nI (ln (qt_n b st.1)) = 0 ↔ ln (qt_n b st.1) = 0 := qi_nI_inj' (j := 0) (by omega) (by decide)
              rw [e1, qc_bds, if_pos (mN_15 e6).1, hset, qi_inbN hc (by decide), qc_gdt, nI_clamp (show qt_n b st.1 < 2 ^ 31 by omega), i2, qi_inbN i1 (by decide), qc_gdt, nI_clamp (show i < 2 ^ 31 by omega), i3]
              -- what is compared
              have e107 : ∀ s0 : Int32, fX12_readSet_b107 w (qc_u I' 291 58 (nI yy)) L' D' R (nI (qt_from b st1.1)) s0 = fX12_readSet_b124 w (qc_u I' 291 58 (nI yy)) L' D' R (nI (qt_from b st1.1)) (if r.1.1 = 0 then 1 else 0) s0 := fun s0 => by
                unfold fX12_readSet_b107
                rw [qc_u_at, qi_inbN c3 (by decide), qc_gdt, nI_clamp (by omega), qc_u_off _ _ (by decide), c1]
                by_cases v : r.1.1 = 0
                · rw [if_pos (z0.mpr v), if_pos v]
                · rw [if_neg (fun u => v (z0.mp u)), if_neg v]
              have e124 : (if nI (ln (qt_n b st.1)) = 0 then (fX12_readSet_b107 w (qc_u I' 291 58 (nI yy)) L' D' R (nI (qt_from b st1.1)) (1 : Int32)) else (fX12_readSet_b107 w (qc_u I' 291 58 (nI yy)) L' D' R (nI (qt_from b st1.1)) (0 : Int32))) = if (Nat.beq r.1.1 0 == Nat.beq (ln (qt_n b st.1)) 0) = true then fX12_readSet_b133 w (qc_u I' 291 58 (nI yy)) L' D' R else (qc_bd (fX12_fail w (qc_u I' 291 58 (nI yy)) L' D' R (4 : Int32) (nI (qt_from b st1.1))) fun r6 I6 L6 D6 R6 => fX12_readSet_b133 w I6 L6 D6 R6) := by
                rw [e107, e107]
                unfold fX12_readSet_b124
                by_cases v1 : ln (qt_n b st.1) = 0
                · rw [if_pos (l0.mpr v1)]
                  by_cases v2 : r.1.1 = 0
                  · rw [if_pos v2, if_pos rfl, if_pos (beq0_eq.1 ⟨fun _ => v1, fun _ => v2⟩)]
                  · rw [if_neg v2, if_neg (by decide), beq0_eq.2 (fun k => v2 (k.mpr v1)), if_neg (by decide)]
                · rw [if_neg (fun k => v1 (l0.mp k))]
                  by_cases v2 : r.1.1 = 0
                  · rw [if_pos v2, if_neg (by decide), beq0_eq.2 (fun k => v1 (k.mp v2)), if_neg (by decide)]
                  · rw [if_neg v2, if_pos rfl, if_pos (beq0_eq.1 ⟨fun k => absurd k v2, fun k => absurd k v1⟩)]
              rw [e124]
              show mO b len q I0 L0 D0 R (qs_fit _ _ _) _
              unfold qs_fit
              cases hok : (Nat.beq r.1.1 0 == Nat.beq (ln (qt_n b st.1)) 0) with
              | true =>
                rw [if_pos rfl, if_pos rfl]
                exact m_133 hb hS hln e6 p1 e4
              | false =>
                rw [if_neg (by decide), if_neg (by decide)]
                obtain ⟨I5, g1, g2⟩ := mN_fail (w := w) (R := R) e6 (k := 4) (j := qt_from b st1.1) (by decide)
                have g1 : fX12_fail w (qc_u I' 291 58 (nI yy)) L' D' R 4 (nI (qt_from b st1.1)) = some ((), I5, L', D', R) := g1
                rw [g1, qc_bds, E_133 g2]
                exact mO_e g2 rfl
        · rw [if_neg (fun k => u (of_decide_eq_true k)), if_neg u]
          obtain ⟨I5, g1, g2⟩ := mN_fail (w := w) (R := R) m2 (k := 2) (j := qt_from b st1.1) (by decide)
          have g1 : fX12_fail w (qc_u I1 291 63 (nI (qt_n b st.1))) L1 D1 R 2 (nI (qt_from b st1.1)) = some ((), I5, L1, D1, R) := g1
          obtain ⟨I6, g3, g4⟩ := E_66 (w := w) (R := R) g2 (nI (qt_from b st1.1))
          rw [g1, qc_bds, g3]
          exact mO_e g4 rfl
  · rw [if_neg (fun u => z (hk1.mp u)), if_neg z, a2]
    obtain ⟨I5, g1, g2⟩ := mN_fail (w := w) (R := R) h (k := 2) (j := qt_from b st.1) (by decide)
    have g1 : fX12_fail w I L D R 2 (nI (qt_from b st.1)) = some ((), I5, L, D, R) := g1
    unfold fX12_readSet_b24
    rw [g1, qc_bds, if_neg (mN_15p g2)]
    exact mO_e g2 rfl
/-- all of it -/
def mP (b : Nat → Nat) (len q : Nat) (I0 : qTI) (L0 : qTL) (D0 : qTD) (R : qTR) (r : qR (Nat × qXS)) (out : qcO Int32) : Prop :=
  (∀ s, r = .inr s → ∃ (ds : List qDen) (I : qTI) (L : qTL) (D : qTD), out = some (nI s.1, I, L, D, R) ∧ mN b q I0 L0 D0 none s.2.1 s.2.2 ds I L D ∧ qs_G b len s.2.2 ∧ ds.length ≤ s.2.2.1) ∧
  (∀ e, r = .inl e → ∃ (v : Int32) (x : qX) (st : qP) (ds : List qDen) (I : qTI) (L : qTL) (D : qTD), out = some (v, I, L, D, R) ∧ mN b q I0 L0 D0 (some e) x st ds I L D)
theorem m_98 (hb : qt_B b len) {sort : Nat} {r : qR qXS} {out : qcO Unit} (h : mO b len q I0 L0 D0 R r out) : mP b len q I0 L0 D0 R (qs_b r fun s => q_end b sort s) (qc_bd out fun _ I L D R => fX12_read_b98 w I L D R (nI sort)) := by
  cases r with
  | inl e =>
    obtain ⟨x, st, ds, I, L, D, e1, e2⟩ := h.2 e rfl
    rw [e1, qc_bds]
    unfold fX12_read_b98
    rw [if_neg (mN_15e e2)]
    exact ⟨fun s z => (by cases z), fun e' z => by cases z; exact ⟨_, x, st, ds, I, L, D, rfl, e2⟩⟩
  | inr s =>
    obtain ⟨ds, I, L, D, e1, e2, e3, e4⟩ := h.1 s rfl
    obtain ⟨a1, a2, a3, a4⟩ := mN_15 e2
    have hm := qt_m_lt b s.2.1
    have hm63 := e3.2.1
    have hk : ∀ m, m < 62 → (nI (qt_kd m) = 0 ↔ m = 0) := by decide
    have hk1 := hk (qt_m b s.2.1) (by omega)
    rw [e1, qc_bds]
    unfold fX12_read_b98
    rw [if_pos a1, a3]
    show mP b len q I0 L0 D0 R (q_end b sort s) _
    unfold q_end
    by_cases z : qt_m b s.2.1 = 0
    · rw [if_pos (hk1.mpr z), if_pos z]
      exact ⟨fun s' u => by cases u; exact ⟨ds, I, L, D, rfl, e2, e3, e4⟩, fun e u => (by cases u)⟩
    · rw [if_neg (fun u => z (hk1.mp u)), if_neg z, a2]
      obtain ⟨I5, g1, g2⟩ := mN_fail (w := w) (R := R) e2 (k := 2) (j := qt_from b s.2.1) (by decide)
      have g1 : fX12_fail w I L D R 2 (nI (qt_from b s.2.1)) = some ((), I5, L, D, R) := g1
      rw [g1, qc_bds]
      exact ⟨fun s' u => (by cases u), fun e u => by cases u; exact ⟨_, _, _, ds, I5, L, D, rfl, g2⟩⟩
theorem m_read (hb : qt_B b len) (hS : mS b ln len q I0) (hln : ∀ c, c < 10 → ln c ≤ 8) (h0 : qt_m b 0 ≠ 63) (hG : qs_G b len (0, [])) (h : mN b q I0 L0 D0 none q_x0 (0, []) [] I L D) : mP b len q I0 L0 D0 R (q_read b ln qN) (fX12_read w I L D R) := by
  have hts := mN_ts (w := w) (R := R) hb hS h ⟨hG.1, hG.2.1⟩
  have hts : mTs w I L D R (qt_m b 0) := hts
  obtain ⟨a1, a2, a3, a4⟩ := mN_15 h
  have e43 : fX12_read w I L D R = fX12_read_b43 w I L D R (if q_so (qt_m b 0) = 3 then -1 else nI (q_so (qt_m b 0))) := by
    unfold fX12_read q_so
    simp only [mw_5 hts, mw_9 hts, mw_15 hts, qc_bds, decide_eq_true_eq]
    repeat' split
    all_goals first | rfl | omega
  have hso : q_so (qt_m b 0) ≤ 3 := by
    unfold q_so
    repeat' split
    all_goals omega
  rw [e43]
  unfold fX12_read_b43 q_read
  rw [if_neg h0]
  by_cases z : q_so (qt_m b 0) = 3
  · rw [if_pos z, if_pos z, if_pos rfl, a2]
    obtain ⟨I5, g1, g2⟩ := mN_fail (w := w) (R := R) h (k := 2) (j := qt_from b 0) (by decide)
    have g1 : fX12_fail w I L D R 2 (nI (qt_from b 0)) = some ((), I5, L, D, R) := g1
    unfold fX12_read_b58
    rw [g1, qc_bds, mN_nextE g2, qc_bds, if_neg (mN_15p g2)]
    exact ⟨fun s' u => (by cases u), fun e u => by cases u; exact ⟨_, _, _, [], I5, L, D, rfl, g2⟩⟩
  · rw [if_neg z, if_neg z, if_neg (qi_nI_m1 (by omega))]
    unfold fX12_read_b58
    obtain ⟨I2, L2, D2, k1, k2, k3⟩ := mN_next (w := w) (R := R) hb hS h ⟨hG.1, hG.2.1⟩
    have hm0 : qt_m b 0 ≠ 0 := fun u => z (by rw [u]; rfl)
    rw [k1, qc_bds]
    cases ha : qs_adv b (0, []) with
    | inl e =>
      have m1 := k3 e ha
      rw [if_neg (mN_15p m1)]
      exact ⟨fun s' u => (by cases u), fun e' u => by cases u; exact ⟨_, _, _, [], I2, L2, D2, rfl, m1⟩⟩
    | inr st1 =>
      have m1 := k2 st1 ha
      obtain ⟨q1, q2, q3⟩ := qs_G_adv hb hG hm0 ha
      rw [if_pos (show I2 291 15 ≤ 0 by rw [(mN_15 m1).1]; decide)]
      show mP b len q I0 L0 D0 R (qs_b (q_body b ln qN (q_so (qt_m b 0)) st1) fun s => q_end b (q_so (qt_m b 0)) s) _
      rcases (show q_so (qt_m b 0) = 0 ∨ q_so (qt_m b 0) = 1 ∨ q_so (qt_m b 0) = 2 by omega) with y | y | y
      · rw [y]
        exact m_98 (sort := 0) hb (m_find hb hS hln m1 q1 (Nat.zero_le _))
      · rw [y]
        exact m_98 (sort := 1) hb (m_fold hb hS hln m1 q1 (Nat.zero_le _))
      · rw [y]
        exact m_98 (sort := 2) hb (m_set hb hS hln m1 q1 (Nat.zero_le _))
end
