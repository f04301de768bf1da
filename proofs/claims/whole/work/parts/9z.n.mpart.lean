/-! the reference reads as the spec does: parts -/
section
variable {w : qcW} {I I0 : qTI} {L L0 : qTL} {D D0 : qTD} {R : qTR} {b ln : Nat → Nat} {len q o N n : Nat} {τ : Option (Nat × Nat)} {st : qP} {J : qJs} {P : List Nat} {F : qFs} {ds : List qDen} {x1 x3 : Int32}
/-- what is laid as it stands -/
theorem bg_leaf (hb : qt_B b len) (hS : mS b ln len q I0) (h : mR b q I0 L0 D0 none st o J P F ds I L D) (hG : mG b len st o J P F ds N) {st' : qP} {d : qDen} {I2 : qTI} {D2 : qTD} (hst : st'.1 = st.1) (m2 : mR b q I0 L0 D0 none st' o J (ds.length :: P) F (ds ++ [d]) I2 L D2) (eb : fX12_begins w I L D R x3 = qc_bd (fX12_next w I2 L D2 R) fun _ I L D R => some (true, I, L, D, R)) (hQ : ∀ st2, qs_adv b st' = .inr st2 → qs_G b len st2 ∧ st.1 < st2.1) : mV b len q I0 L0 D0 R (K_o w R x1) o J P F ds (qs_lay b d st') (fX12_expression_l27 w N (I, L, D, R, x1, 1, x3)) := by
  obtain ⟨g1, g2, g3, g4, g5, g6⟩ := mG_le hb hG
  obtain ⟨N, rfl⟩ : ∃ k, N = k + 2 := ⟨N - 2, by omega⟩
  obtain ⟨I3, L3, D3, k1, k2, k3⟩ := mr_next (w := w) (R := R) hb hS m2 (by rw [hst]; exact mG_st hG)
  rw [k1, qc_bds] at eb
  unfold qs_lay
  cases ha : qs_adv b st' with
  | inl e =>
    have m3 := k3 e ha
    rw [bg_t (mR_15 h) eb (m3.2.2.2.2.2.1.1.trans h.2.2.2.2.2.1.1.symm)]
    exact mV_e m3 (mE_27 m3 _ _)
  | inr st2 =>
    have m3 := k2 st2 ha
    obtain ⟨q1, q2⟩ := hQ st2 ha
    rw [bg_t (mR_15 h) eb (m3.2.2.2.2.2.1.1.trans h.2.2.2.2.2.1.1.symm), mOu_of]
    obtain ⟨e1, e2, e3, e4, e5, e6, e7⟩ := hG
    refine mV_s (s := (d, st2)) (t := [d]) (x := ds.length) m3 ?_ ⟨q1, e2, ?_, ?_, e5, e6, ?_⟩ (n := qcF) (N := N) ?_ rfl
    · rw [List.getElem?_append_right (Nat.le_refl _), Nat.sub_self]; rfl
    · rw [List.length_append, List.length_singleton]; show _ ≤ st2.1 + 1; omega
    · rw [List.length_cons]; show _ ≤ st2.1; omega
    · show 500 ≤ N + 1 + st2.1; omega
    · unfold qcF; omega
theorem mR_D (h : mR b q I0 L0 D0 τ st o J P F ds I L D) (v : UInt64) : mR b q I0 L0 D0 τ st o J P F ds I L (qc_u D 305 (100 * q + st.2.length) v) := by
  obtain ⟨⟨a1, a2, a3⟩, t, ⟨b1, b2, b3⟩, c⟩ := h
  refine ⟨⟨a1, a2, fun a k z y => ?_⟩, mTok_co t (fun _ _ => rfl) (qc_u_ne _ _ (Or.inl (by decide))), ⟨b1, b2, fun i u hu => ?_⟩, c⟩
  · rw [qc_u_ne _ _ (by
      by_cases e : a = 305
      · right; intro e2; exact y ⟨e, by omega⟩
      · exact Or.inl e)]
    exact a3 a k z y
  · have := (List.getElem?_eq_some_iff.mp hu).1
    rw [qc_u_ne _ _ (Or.inr (by omega))]
    exact b3 i u hu
/-- by what stands here -/
def zBn (w : qcW) (I : qTI) (L : qTL) (D : qTD) (R : qTR) : qcO Bool := (qc_bd (fX12_node w I L D R (0 : Int32) (0 : Int32) (0 : Int32) (0 : Int32) (I 291 13) (1 : Int32)) fun r26 I26 L26 D26 R26 => qc_bd (fX12_lay w I26 L26 D26 R26 r26) fun r27 I27 L27 D27 R27 => qc_bd (fX12_next w I27 L27 D27 R27) fun r28 I28 L28 D28 R28 => some (true, I28, L28, D28, R28))
def zBr (w : qcW) (I : qTI) (L : qTL) (D : qTD) (R : qTR) : qcO Bool := (qc_gd (qc_inb (((100 : Int32) * (I 291 40)) + (I 291 26)) 1200) <| qc_bd (fX12_node w I L (qc_u D 305 (Int32.toNatClampNeg (((100 : Int32) * (I 291 40)) + (I 291 26))) (D 291 14)) R (1 : Int32) (0 : Int32) (0 : Int32) (0 : Int32) (I 291 26) (4 : Int32)) fun r23 I23 L23 D23 R23 => qc_bd (fX12_lay w I23 L23 D23 R23 r23) fun r24 I24 L24 D24 R24 => qc_bd (fX12_next w (qc_u I24 291 26 ((I24 291 26) + (1 : Int32))) L24 D24 R24) fun r25 I25 L25 D25 R25 => some (true, I25, L25, D25, R25))
def zBp (w : qcW) (I : qTI) (L : qTL) (D : qTD) (R : qTR) : qcO Bool := (qc_bd (fX12_is w I L D R (40 : Int32)) fun r17 I17 L17 D17 R17 => if r17 = true then (fX12_begins_b219 w I17 L17 D17 R17) else (qc_bd (fX12_fail w I17 L17 D17 R17 (2 : Int32) (I17 291 10)) fun r19 I19 L19 D19 R19 => fX12_begins_b219 w I19 L19 D19 R19))
theorem bg_by (hts : mTs w I L D R (qt_m b st.1)) (h19 : qt_m b st.1 = 19 → x3 = 0) (h49 : qt_m b st.1 ≠ 49 ∧ qt_m b st.1 ≠ 53) (h9 : I 291 9 = nI (qt_kd (qt_m b st.1))) (hm63 : qt_m b st.1 ≠ 63) : fX12_begins w I L D R x3 = if qt_m b st.1 = 1 then zBn w I L D R else if qt_m b st.1 = 2 then zBr w I L D R else if qt_m b st.1 = 3 then (qc_bd (fX12_beginsCell w I L D R) fun r21 I21 L21 D21 R21 => some (r21, I21, L21, D21, R21)) else if 4 ≤ qt_m b st.1 ∧ qt_m b st.1 ≤ 35 then (qc_bd (fX12_beginsWord w I L D R) fun r20 I20 L20 D20 R20 => some (r20, I20, L20, D20, R20)) else zBp w I L D R := by
  rw [bg_30 (b := b) (st := st) hts h19]
  unfold fX12_begins_b30
  rw [ms_49 hts, qc_bds, if_neg (fun u => h49.1 (of_decide_eq_true u)), ms_53 hts, qc_bds, if_neg (fun u => h49.2 (of_decide_eq_true u)), h9]
  have hm := qt_m_lt b st.1
  have hk : ∀ m, m < 62 → (nI (qt_kd m) = 2 ↔ m = 1) ∧ (nI (qt_kd m) = 3 ↔ m = 2) ∧ (nI (qt_kd m) = 4 ↔ m = 3) ∧ (nI (qt_kd m) = 1 ↔ 4 ≤ m ∧ m ≤ 35) := by decide
  obtain ⟨e1, e2, e3, e4⟩ := hk (qt_m b st.1) (by omega)
  by_cases c1 : qt_m b st.1 = 1
  · rw [if_pos (e1.mpr c1), if_pos c1]; rfl
  rw [if_neg (fun u => c1 (e1.mp u)), if_neg c1]
  by_cases c2 : qt_m b st.1 = 2
  · rw [if_pos (e2.mpr c2), if_pos c2]; rfl
  rw [if_neg (fun u => c2 (e2.mp u)), if_neg c2]
  by_cases c3 : qt_m b st.1 = 3
  · rw [if_pos (e3.mpr c3), if_pos c3]
  rw [if_neg (fun u => c3 (e3.mp u)), if_neg c3]
  by_cases c4 : 4 ≤ qt_m b st.1 ∧ qt_m b st.1 ≤ 35
  · rw [if_pos (e4.mpr c4), if_pos c4]
  rw [if_neg (fun u => c4 (e4.mp u)), if_neg c4]
  rfl
/-- row, yes, no -/
theorem bg_ryn (hts : mTs w I L D R (qt_m b st.1)) (hm : 16 ≤ qt_m b st.1 ∧ qt_m b st.1 ≤ 18) : fX12_beginsWord w I L D R = fX12_beginsWord_b72 w I L D R (if qt_m b st.1 = 16 then 1 else 0) (if qt_m b st.1 = 17 then 1 else 0) 0 0 0 (if qt_m b st.1 = 16 then 2 else 3) := by
  unfold fX12_beginsWord fX12_beginsWord_b32 fX12_beginsWord_b51 fX12_beginsWord_b63
  simp only [mw_17 hts, qc_bds, mw_16 hts, mw_18 hts]
  rcases (show qt_m b st.1 = 16 ∨ qt_m b st.1 = 17 ∨ qt_m b st.1 = 18 by omega) with z | z | z
  all_goals (rw [z]; rfl)
/-- tag 5 -/
theorem mA_part (hb : qt_B b len) (hS : mS b ln len q I0) (hln : ∀ c, c < 10 → ln c ≤ 8) (hA : mA w b ln len q I0 L0 D0 R x1 n) (h : mR b q I0 L0 D0 none st o J P F ds I L D) (hG : mG b len st o J P F ds N) (h19 : qt_m b st.1 = 19 → x3 = 0) (h49 : qt_m b st.1 ≠ 49 ∧ qt_m b st.1 ≠ 53) (hend : ∀ o st J P F ds N n' I L D f x d, mR b q I0 L0 D0 none st (o + 1) J (x :: P) (f :: F) ds I L D → mG b len st (o + 1) J (x :: P) (f :: F) ds (N + 1) → J.length + F.length + 1 < n' → f.1 = 1 → ds[x]? = some d → ∀ st0, 1 ≤ F.length → F.length ≤ o + 1 → mV b len q I0 L0 D0 R (K_o w R x1) o J P F ds (qs_b (qs_ex b 55 st) fun st3 => .inr (d, st3)) (K_e w R x1 N n' I L D st0)) : mV b len q I0 L0 D0 R (K_o w R x1) o J P F ds (qs_p b ln (n + 1) 5 0 0 o (d_lf 0 []) st) (fX12_expression_l27 w N (I, L, D, R, x1, 1, x3)) := by
  obtain ⟨g1, g2, g3, g4, g5, g6⟩ := mG_le hb hG
  have hts := mr_ts (w := w) (R := R) hb hS h (mG_st hG)
  have hgood := fun s (hr : qs_p b ln (n + 1) 5 0 0 o (d_lf 0 []) st = .inr s) => (qs_good hb hln (n + 1) 5 0 0 o _ st s hr hG.1).1 (by decide) (by decide) ⟨fun u => (by omega), fun u => (by omega)⟩
  have hm := qt_m_lt b st.1
  have hm63 := (mG_st hG).2
  have hadv : qt_m b st.1 ≠ 0 → ∀ st2, qs_adv b st = .inr st2 → qs_G b len st2 ∧ st.1 < st2.1 := fun h0 st2 ha => by
    obtain ⟨q1, q2, -⟩ := qs_G_adv hb hG.1 h0 ha
    exact ⟨q1, q2⟩
  have eby := bg_by (b := b) (st := st) (x3 := x3) hts h19 h49 h.2.1.2.2.2.1 hm63
  change mV b len q I0 L0 D0 R (K_o w R x1) o J P F ds (qs_part b (qs_p b ln n) o st) _
  have hp : qs_p b ln (n + 1) 5 0 0 o (d_lf 0 []) st = qs_part b (qs_p b ln n) o st := rfl
  rw [hp] at hgood
  unfold qs_part at hgood ⊢
  by_cases c1 : qt_m b st.1 = 1
  · rw [if_pos c1] at hgood ⊢
    have hn := qt_num hb c1
    obtain ⟨I1, I2, n1, n2, n3⟩ := mr_nl (w := w) (R := R) h (d := d_lf 1 [(1, qt_n b st.1)]) (nr := st.2.length) (x1 := 0) (x2 := 0) (x3 := 0) (x4 := 0) (x5 := nI (qt_n b st.1)) (x6 := 1) (by omega) (by omega) (D_lf (by decide) ⟨show 0 < 1 by decide, show 1 ≤ 6 by decide⟩ (T_num hn.1)) (show 1 ≤ 400 by decide) rfl (fun I' e => rfl) (fun T t1 t2 t3 t4 t5 t6 => ⟨t6, Or.inl ⟨qt_n b st.1, Or.inl t1, t5, rfl⟩⟩)
    refine bg_leaf hb hS h hG rfl n3 ?_ (hadv (by omega))
    rw [eby, if_pos c1]
    unfold zBn
    rw [h.2.1.2.2.2.2.2.1 (Or.inl c1), n1, qc_bds, n2, qc_bds]
  rw [if_neg c1] at hgood eby ⊢
  by_cases c2 : qt_m b st.1 = 2
  · rw [if_pos c2] at hgood eby ⊢
    have hgl : ∀ st2, qs_adv b (st.1, st.2 ++ [qt_r b st.1]) = .inr st2 → qs_G b len st2 ∧ st.1 < st2.1 := fun st2 ha => by
      have hq := hgood (d_lf 4 [(2, st.2.length)], st2) (by unfold qs_lay; rw [ha]; rfl)
      have h4 : st.1 + 1 ≤ st2.1 + 0 := hq.2.2.2
      exact ⟨hq.1, by omega⟩
    have hr100 := qs_G_nr hb hG.1
    -- one more real would be too many only where no token could follow: the spec's own bound
    have hlt : st.2.length < 100 := by
      have j := (qs_J_real hb hG.1.1 hG.1.2.2 c2 0).2
      obtain ⟨p1, p2, p3, p4⟩ := qt_pos hb hG.1.1
      have := p4 hm63 (by omega)
      have := (p3 hm63).2
      have := hb.1
      omega
    have e26 := h.2.2.1.2.1
    have e40 : I 291 40 = nI q := (h.1.1 291 40 (by decide) (by decide)).trans hS.2.2.1
    have hq12 := hS.2.2.2
    have eix : (100 : Int32) * nI q + nI st.2.length = nI (100 * q + st.2.length) := by rw [show (100 : Int32) = nI 100 from rfl, qi_mul, nI_add]
    have hD1 := mR_D h (qt_r b st.1)
    obtain ⟨I1, I2, n1, n2, n3⟩ := mr_nl (w := w) (R := R) hD1 (d := d_lf 4 [(2, st.2.length)]) (nr := st.2.length + 1) (x1 := 1) (x2 := 0) (x3 := 0) (x4 := 0) (x5 := nI st.2.length) (x6 := 4) (by omega) (by omega) (D_lf (by decide) ⟨show 0 < 1 by decide, show 1 ≤ 6 by decide⟩ (T_real (by omega) (by omega))) (show 1 ≤ 400 by decide) rfl (fun I' e => rfl) (fun T t1 t2 t3 t4 t5 t6 => ⟨t6, Or.inr (Or.inl ⟨st.2.length, t1, t5, rfl⟩)⟩)
    have m4 := mR_f n3 (k := 26) (by decide) (nI (st.2.length + 1)) (st' := (st.1, st.2 ++ [qt_r b st.1])) rfl (Or.inr ⟨by decide, rfl⟩) (Or.inl ⟨rfl, by rw [List.length_append]; rfl, fun i v hv => ?_⟩) (Or.inr ⟨by decide, rfl⟩) (Or.inr ⟨by decide, rfl⟩) (Or.inr ⟨by decide, rfl⟩)
    · refine bg_leaf hb hS h hG (st' := (st.1, st.2 ++ [qt_r b st.1])) rfl m4 ?_ hgl
      rw [eby]
      unfold zBr
      rw [e40, e26, eix, qi_inbN (by omega) (by decide), qc_gdt, nI_clamp (by omega), h.2.1.2.2.2.2.2.2 c2, n1, qc_bds, n2, qc_bds, n3.2.2.1.2.1, qi_s1]
    · by_cases z : i < st.2.length
      · have hv : st.2[i]? = some v := by rw [← List.getElem?_append_left z]; exact hv
        exact n3.2.2.1.2.2 i v hv
      · have hi : i = st.2.length := by
          have := (List.getElem?_eq_some_iff.mp hv).1
          have e : (st.2 ++ [qt_r b st.1]).length = st.2.length + 1 := by rw [List.length_append]; rfl
          have : i < (st.2 ++ [qt_r b st.1]).length := this
          omega
        have hv : (st.2 ++ [qt_r b st.1])[i]? = some v := hv
        rw [hi, List.getElem?_append_right (Nat.le_refl _), Nat.sub_self] at hv
        cases hv
        rw [hi]
        exact qc_u_at _ _ _ _
  rw [if_neg c2] at hgood eby ⊢
  have word : ∀ (d : qDen) (k1 k5 k6 : Int32), 16 ≤ qt_m b st.1 ∧ qt_m b st.1 ≤ 18 → k6 = (if qt_m b st.1 = 16 then 1 else 0) → k5 = (if qt_m b st.1 = 17 then 1 else 0) → k1 = (if qt_m b st.1 = 16 then 2 else 3) → qs_D st.2.length d → d.2.2.1 ≤ 400 → k6 = nI d.1 → (∀ I' : qTI, fX12_needOf w I' L D R k1 0 0 0 = some (nI d.2.1, I', L, D, R)) → (∀ T : qTI, T 298 ds.length = k1 → T 299 ds.length = 0 → T 300 ds.length = 0 → T 301 ds.length = 0 → T 302 ds.length = k5 → (T 303 ds.length = nI d.1 ∧ T 304 ds.length = nI d.2.1 ∧ d.1 ≤ 4 ∧ 1 ≤ d.2.1 ∧ d.2.1 ≤ d.2.2.1 ∧ d.2.2.1 ≤ 400) → nN T (ds ++ [d]) ds.length d) → mV b len q I0 L0 D0 R (K_o w R x1) o J P F ds (qs_lay b d st) (fX12_expression_l27 w N (I, L, D, R, x1, 1, x3)) := fun d k1 k5 k6 hr h6 h5 h1 hD hz hk hn hf => by
    obtain ⟨I1, I2, n1, n2, n3⟩ := mr_nl (w := w) (R := R) h (d := d) (nr := st.2.length) (x1 := k1) (x2 := 0) (x3 := 0) (x4 := 0) (x5 := k5) (x6 := k6) (by omega) (by omega) hD hz hk (fun I' e => hn I') hf
    refine bg_leaf hb hS h hG rfl n3 ?_ (hadv (by omega))
    rw [eby, if_neg (by omega), if_pos (by omega), bg_ryn hts hr, ← h6, ← h5, ← h1]
    unfold fX12_beginsWord_b72
    rw [n1, qc_bds, n2, qc_bds]
    cases fX12_next w I2 L D R with
    | none => rfl
    | some u => rfl
  by_cases c16 : qt_m b st.1 = 16
  · rw [if_pos c16]
    exact word (d_lf 1 [(3, 0)]) 2 0 1 (by omega) (by rw [if_pos c16]) (by rw [if_neg (by omega)]) (by rw [if_pos c16]) (D_lf (by decide) (by decide) T_obj) (by decide) rfl (fun I' => rfl) (fun T t1 t2 t3 t4 t5 t6 => ⟨t6, Or.inr (Or.inr (Or.inl ⟨t1, rfl⟩))⟩)
  rw [if_neg c16]
  by_cases c17 : qt_m b st.1 = 17
  · rw [if_pos c17]
    exact word (d_lf 0 [(1, 1)]) 3 1 0 (by omega) (by rw [if_neg c16]) (by rw [if_pos c17]) (by rw [if_neg c16]) (D_lf (by decide) (by decide) (T_yes (by decide))) (by decide) rfl (fun I' => rfl) (fun T t1 t2 t3 t4 t5 t6 => ⟨t6, Or.inl ⟨1, Or.inr t1, t5, rfl⟩⟩)
  rw [if_neg c17]
  by_cases c18 : qt_m b st.1 = 18
  · rw [if_pos c18]
    exact word (d_lf 0 [(1, 0)]) 3 0 0 (by omega) (by rw [if_neg c16]) (by rw [if_neg c17]) (by rw [if_neg c16]) (D_lf (by decide) (by decide) (T_yes (by decide))) (by decide) rfl (fun I' => rfl) (fun T t1 t2 t3 t4 t5 t6 => ⟨t6, Or.inl ⟨0, Or.inr t1, t5, rfl⟩⟩)
  rw [if_neg c18]
  by_cases c3 : qt_m b st.1 = 3
  · rw [if_pos c3]
    exact hA.2.2.2.2.1 o st J P F ds N I L D x3 h hG c3
  rw [if_neg c3]
  by_cases c54 : qt_m b st.1 = 54
  · rw [if_pos c54]
    obtain ⟨N, rfl⟩ : ∃ k, N = k + 2 := ⟨N - 2, by omega⟩
    obtain ⟨I1, a1, a2, a3⟩ := mr_opens (w := w) (R := R) h hG.2.1
    have ebeg : fX12_begins w I L D R x3 = qc_bd (fX12_opens w I L D R) fun r6 I6 L6 D6 R6 => qc_bd (fX12_frame w I6 L6 D6 R6 (1 : Int32) (I6 291 10) (0 : Int32) (0 : Int32)) fun r7 I7 L7 D7 R7 => qc_bd (fX12_next w I7 L7 D7 R7) fun r8 I8 L8 D8 R8 => some (false, I8, L8, D8, R8) := by
      rw [eby, if_neg c3, if_neg (by omega)]
      unfold zBp
      rw [ms_54 hts, qc_bds, if_pos (decide_eq_true c54)]
      rfl
    rw [a1] at ebeg
    rw [qc_bds] at ebeg
    cases ho : qs_op1 b o st with
    | inl e =>
      have m1 := a3 e ho
      obtain ⟨I2, j1, j2⟩ := mr_frame (w := w) (R := R) m1 (s := 1) (a := 0) (by decide) (by omega) (by omega) (I1 291 10) 0
      have j1 : fX12_frame w I1 L D R 1 (I1 291 10) 0 0 = some ((), I2, L, D, R) := j1
      rw [j1, qc_bds, mr_nextE j2, qc_bds] at ebeg
      rw [bg_f (mR_15 h) ebeg (lt_F h.2.2.2.2.2.1.1 j2.2.2.2.2.2.1.1 (by rw [List.length_cons]; omega) (by rw [List.length_cons]; omega))]
      exact mV_e j2 (mE_27 j2 _ _)
    | inr st' =>
      obtain ⟨rfl, m1⟩ := a2 st' ho
      have ho12 := (qs_op1_of ho).2
      obtain ⟨I2, j1, j2⟩ := mr_frame (w := w) (R := R) m1 (s := 1) (a := 0) (by decide) (by omega) (by omega) (I1 291 10) 0
      have j1 : fX12_frame w I1 L D R 1 (I1 291 10) 0 0 = some ((), I2, L, D, R) := j1
      obtain ⟨I3, L3, D3, k1, k2, k3⟩ := mr_next (w := w) (R := R) hb hS j2 (mG_st hG)
      rw [j1, qc_bds, k1, qc_bds] at ebeg
      show mV b len q I0 L0 D0 R (K_o w R x1) o J P F ds (qs_b (qs_adv b st') _) _
      cases ha : qs_adv b st' with
      | inl e =>
        have m3 := k3 e ha
        rw [bg_f (mR_15 h) ebeg (lt_F h.2.2.2.2.2.1.1 m3.2.2.2.2.2.1.1 (by rw [List.length_cons]; omega) (by rw [List.length_cons]; omega))]
        exact mV_e m3 (mE_27 m3 _ _)
      | inr st2 =>
        have m3 := k2 st2 ha
        obtain ⟨q1, q2, q3⟩ := qs_G_adv hb hG.1 (by omega) ha
        rw [bg_f (mR_15 h) ebeg (lt_F h.2.2.2.2.2.1.1 m3.2.2.2.2.2.1.1 (by rw [List.length_cons]; omega) (by rw [List.length_cons]; omega))]
        obtain ⟨e1, e2, e3, e4, e5, e6, e7⟩ := hG
        have hG2 : mG b len st2 (o + 1) J P ((1, J.length, I1 291 10, 0, 0) :: F) ds (N + 1) := ⟨q1, by omega, by rw [List.length_cons]; omega, by omega, by rw [List.length_cons]; omega, by rw [List.length_cons]; omega, by omega⟩
        have hv := hA.1 (o + 1) st2 J P _ ds (N + 1) I3 L3 D3 m3 hG2 ⟨_, F, rfl, rfl⟩ (Or.inl (by rw [List.length_cons]; omega))
        refine mV_b hv (fun s N' n' x t I4 L4 D4 hr m4 hx hG4 hn4 => ?_)
        exact mV_ds (hend o s.2 J P F (ds ++ t) N' n' I4 L4 D4 _ x s.1 m4 hG4 (by rw [List.length_cons] at hn4; omega) rfl hx s.2 e6 e5)
  rw [if_neg c54]
  exact hA.2.2.2.2.2.1 o st J P F ds N I L D x3 h hG h19 ⟨h49, by omega, by omega, c54⟩
end
