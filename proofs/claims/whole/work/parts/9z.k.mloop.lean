/-! the reference's loop over tokens: its halves -/
abbrev qK27 : Type := qTI × qTL × qTD × qTR × Int32 × Int32 × Int32 → qcO Int32
def mMd (w : qcW) (k27 : qK27) (n : Nat) (I : qTI) (L : qTL) (D : qTD) (R : qTR) (x1 : Int32) : qcO Int32 :=
  (qc_bd (fX12_joinsDown_l0 w n (I, L, D, R, (0 : Int32))) fun r19 I19 L19 D19 R19 => if (I19 291 15) = 0 then (qc_bd (fX12_is w I19 L19 D19 R19 (63 : Int32)) fun r21 I21 L21 D21 R21 => if r21 = true then (if (1 : Int32) < (I21 291 34) then (fX12_expression_b250 w k27 I21 L21 D21 R21 x1) else (if x1 = 0 then (fX12_expression_b306 w k27 I21 L21 D21 R21 x1) else (fX12_expression_b250 w k27 I21 L21 D21 R21 x1))) else (fX12_expression_b306 w k27 I21 L21 D21 R21 x1)) else (fX12_expression_b306 w k27 I19 L19 D19 R19 x1))
def mOu (w : qcW) (k27 : qK27) (n : Nat) (I : qTI) (L : qTL) (D : qTD) (R : qTR) (x1 : Int32) : qcO Int32 :=
  (if (I 291 15) = 0 then (qc_bd (fX12_strengthHere w I L D R) fun r33 I33 L33 D33 R33 => if r33 = (4 : Int32) then (qc_bd (fX12_joinsDown_l0 w n (I33, L33, D33, R33, (5 : Int32))) fun r35 I35 L35 D35 R35 => qc_gd (qc_inb ((I35 291 34) - (1 : Int32)) 40) <| if (I35 291 28) ≤ (I35 311 (Int32.toNatClampNeg ((I35 291 34) - (1 : Int32)))) then (fX12_expression_b157 w k27 I35 L35 D35 R35 x1 r33) else (qc_gd (qc_inb ((I35 291 28) - (1 : Int32)) 420) <| if (I35 306 (Int32.toNatClampNeg ((I35 291 28) - (1 : Int32)))) = (4 : Int32) then (fX12_expression_b158 w k27 I35 L35 D35 R35 x1 r33 (1 : Int32)) else (fX12_expression_b157 w k27 I35 L35 D35 R35 x1 r33))) else (if r33 = (-1 : Int32) then (mMd w k27 n I33 L33 D33 R33 x1) else (qc_bd (fX12_joinsDown_l0 w n (I33, L33, D33, R33, r33)) fun r27 I27 L27 D27 R27 => if (I27 291 15) = 0 then (qc_bd (fX12_opHere w I27 L27 D27 R27 r33) fun r29 I29 L29 D29 R29 => qc_bd (fX12_joint w I29 L29 D29 R29 r33 r29) fun r30 I30 L30 D30 R30 => fX12_expression_b196 w k27 I30 L30 D30 R30 x1 r33) else (fX12_expression_b196 w k27 I27 L27 D27 R27 x1 r33)))) else (some ((0 : Int32), I, L, D, R)))
section
variable {w : qcW} {I I0 : qTI} {L L0 : qTL} {D D0 : qTD} {R : qTR} {b ln : Nat → Nat} {len q o N n : Nat} {τ : Option (Nat × Nat)} {st : qP} {J : qJs} {P : List Nat} {F : qFs} {ds : List qDen} {x1 : Int32} {k27 : qK27}
theorem mOu_of (x3 : Int32) : fX12_expression_l27 w (N + 1) (I, L, D, R, x1, 0, x3) = mOu w (fX12_expression_l27 w N) qcF I L D R x1 := by
  rw [fX12_expression_l27_s]
  unfold fX12_expression_b27 mOu
  rw [if_pos (show (0 : Int32) = 0 from rfl)]
  rfl
theorem mMd_of : fX12_expression_b217 w k27 I L D R x1 = mMd w k27 qcF I L D R x1 := rfl
/-- when a fault was told -/
theorem mE_27 {e : Nat × Nat} (h : mR b q I0 L0 D0 (some e) st o J P F ds I L D) (x2 x3 : Int32) : fX12_expression_l27 w (N + 1) (I, L, D, R, x1, x2, x3) = some (0, I, L, D, R) := by
  rw [fX12_expression_l27_s]
  unfold fX12_expression_b27
  rw [if_neg (mR_15e h)]
theorem mE_309 {e : Nat × Nat} (h : mR b q I0 L0 D0 (some e) st o J P F ds I L D) (x6 : Int32) : fX12_expression_l309 w (fX12_expression_l27 w (N + 1)) (n + 1) (I, L, D, R, x1, x6) = some (0, I, L, D, R) := by
  rw [fX12_expression_l309_s]
  unfold fX12_expression_b309 fX12_expression_b339 fX12_expression_b357 fX12_expression_b369
  rw [if_neg (mR_15e h), if_neg (mR_15e h)]
  split
  · exact mE_27 h _ _
  · exact mE_27 h _ _
theorem mE_jd {e : Nat × Nat} (h : mR b q I0 L0 D0 (some e) st o J P F ds I L D) (x : Int32) : fX12_joinsDown_l0 w (n + 1) (I, L, D, R, x) = some ((), I, L, D, R) := by
  rw [fX12_joinsDown_l0_s]
  unfold fX12_joinsDown_b0
  rw [if_neg (mR_15e h)]
theorem mE_Md {e : Nat × Nat} (h : mR b q I0 L0 D0 (some e) st o J P F ds I L D) : mMd w (fX12_expression_l27 w (N + 1)) (n + 1) I L D R x1 = some (0, I, L, D, R) := by
  unfold mMd fX12_expression_b306
  rw [mE_jd h, qc_bds, if_neg (mR_15e h)]
  exact mE_309 (n := 4095) h _
theorem mE_196 {e : Nat × Nat} (h : mR b q I0 L0 D0 (some e) st o J P F ds I L D) (x4 : Int32) : fX12_expression_b196 w (fX12_expression_l27 w (N + 1)) I L D R x1 x4 = some (0, I, L, D, R) := by
  unfold fX12_expression_b196 fX12_expression_b211
  rw [mr_nextE h, qc_bds]
  split
  · exact mE_27 h _ _
  · exact mE_27 h _ _
/-- the top joint of a frame binds less than s, or there is none -/
def tpL (s : Nat) (J : qJs) (F : qFs) : Prop := ∃ f F', F = f :: F' ∧ (f.2.1 = J.length ∨ ∃ j J', J = j :: J' ∧ f.2.1 ≤ J'.length ∧ j.1 < s)
/-- .. binds as much -/
def tpG (s : Nat) (J : qJs) (F : qFs) : Prop := ∃ f F' j J', F = f :: F' ∧ J = j :: J' ∧ f.2.1 ≤ J'.length ∧ s ≤ j.1
theorem mR_fj {f : Nat × Nat × Int32 × Nat × Int32} (h : mR b q I0 L0 D0 τ st o J P (f :: F) ds I L D) (hF : F.length < 40) : qc_inb (I 291 34 - 1) 40 = true ∧ I 311 (Int32.toNatClampNeg (I 291 34 - 1)) = nI f.2.1 ∧ f.2.1 < 1000 := by
  obtain ⟨e1, ⟨e2, e3, e4, e5, e6, e7, e8⟩, -⟩ := h.2.2.2.2.2.1
  rw [e1, List.length_cons, show nI (F.length + 1) - 1 = nI F.length from qi_sub (a := F.length + 1) (b := 1) (by omega), nI_clamp (by omega)]
  exact ⟨qi_inbN hF (by decide), e3, e8⟩
theorem mR_jt {j : Nat × Nat × Int32} (h : mR b q I0 L0 D0 τ st o (j :: J) P F ds I L D) (hJ : J.length < 420) : qc_inb (I 291 28 - 1) 420 = true ∧ I 306 (Int32.toNatClampNeg (I 291 28 - 1)) = nI j.1 ∧ j.1 ≤ 9 := by
  obtain ⟨e1, ⟨e2, e3, e4, e5⟩, -⟩ := h.2.2.2.1
  rw [e1, List.length_cons, show nI (J.length + 1) - 1 = nI J.length from qi_sub (a := J.length + 1) (b := 1) (by omega), nI_clamp (by omega)]
  exact ⟨qi_inbN hJ (by decide), e2, e5⟩
theorem jd_no {s : Nat} (hs : s ≤ 9) (h : mR b q I0 L0 D0 none st o J P F ds I L D) (hF : F.length ≤ 40) (hJ : J.length ≤ 420) (ht : tpL s J F) : fX12_joinsDown_l0 w (n + 1) (I, L, D, R, nI s) = some ((), I, L, D, R) := by
  obtain ⟨f, F', rfl, hf⟩ := ht
  rw [fX12_joinsDown_l0_s]
  unfold fX12_joinsDown_b0
  rw [List.length_cons] at hF
  obtain ⟨g1, g2, g3⟩ := mR_fj h (by omega)
  rw [if_pos (mR_15 h), g1, qc_gdt, g2, h.2.2.2.1.1]
  have e := qi_le (a := J.length) (b := f.2.1) (by omega) (by omega)
  rcases hf with z | ⟨j, J', rfl, z1, z2⟩
  · rw [if_pos (e.mpr (by omega))]
  · rw [List.length_cons] at hJ
    obtain ⟨k1, k2, k3⟩ := mR_jt h (by omega)
    rw [List.length_cons] at e
    rw [List.length_cons, if_neg (fun u => by have := e.mp u; omega)]
    rw [h.2.2.2.1.1, List.length_cons] at k1 k2
    rw [k1, qc_gdt, k2, if_pos ((qi_lt (by omega) (by omega)).mpr z2)]
theorem jd_go {s : Nat} (hs : s ≤ 9) (h : mR b q I0 L0 D0 none st o J P F ds I L D) (hF : F.length ≤ 40) (hJ : J.length ≤ 420) (ht : tpG s J F) : fX12_joinsDown_l0 w (n + 1) (I, L, D, R, nI s) = qc_bd (fX12_joins w I L D R) fun r6 I6 L6 D6 R6 => fX12_joinsDown_l0 w n (I6, L6, D6, R6, nI s) := by
  obtain ⟨f, F', j, J', rfl, rfl, z1, z2⟩ := ht
  rw [fX12_joinsDown_l0_s]
  unfold fX12_joinsDown_b0
  rw [List.length_cons] at hF hJ
  obtain ⟨g1, g2, g3⟩ := mR_fj h (by omega)
  obtain ⟨k1, k2, k3⟩ := mR_jt h (by omega)
  have e := qi_le (a := J'.length + 1) (b := f.2.1) (by omega) (by omega)
  rw [h.2.2.2.1.1, List.length_cons] at k1 k2
  rw [if_pos (mR_15 h), g1, qc_gdt, g2, h.2.2.2.1.1, List.length_cons, if_neg (fun u => by have := e.mp u; omega), k1, qc_gdt, k2, if_neg (fun u => by have := (qi_lt (by omega) (by omega)).mp u; omega)]
/-- no joint here -/
theorem mo_mid (h : mR b q I0 L0 D0 none st o J P F ds I L D) (hts : mTs w I L D R (qt_m b st.1)) (hs : qs_sv (qt_m b st.1) = 0) : mOu w k27 n I L D R x1 = mMd w k27 n I L D R x1 := by
  unfold mOu
  rw [if_pos (mR_15 h), mq_str hts, qc_bds, if_pos hs, if_neg (by decide), if_pos rfl]
/-- a second comparison -/
theorem mo_sec (h : mR b q I0 L0 D0 none st o J P F ds I L D) (hts : mTs w I L D R (qt_m b st.1)) (hF : F.length ≤ 40) (hJ : J.length ≤ 420) (hs : qs_sv (qt_m b st.1) = 4) {f : Nat × Nat × Int32 × Nat × Int32} {F' : qFs} {j : Nat × Nat × Int32} {J' : qJs} (hf : F = f :: F') (hj : J = j :: J') (h1 : f.2.1 ≤ J'.length) (h4 : j.1 = 4) : mOu w k27 (n + 1) I L D R x1 = mMd w k27 qcF I L D R x1 := by
  have ht : tpL 5 J F := ⟨f, F', hf, Or.inr ⟨j, J', hj, h1, by omega⟩⟩
  unfold mOu
  rw [if_pos (mR_15 h), mq_str hts, qc_bds, hs, if_neg (show ¬ 4 = 0 by decide), if_pos (show nI 4 = 4 from rfl), show (5 : Int32) = nI 5 from rfl, jd_no (by decide) h hF hJ ht, qc_bds]
  subst hf
  subst hj
  rw [List.length_cons] at hF hJ
  obtain ⟨g1, g2, g3⟩ := mR_fj h (by omega)
  obtain ⟨k1, k2, k3⟩ := mR_jt h (by omega)
  have e := qi_le (a := J'.length + 1) (b := f.2.1) (by omega) (by omega)
  rw [h.2.2.2.1.1, List.length_cons] at k1 k2
  rw [g1, qc_gdt, g2, h.2.2.2.1.1, List.length_cons, if_neg (fun u => by have := e.mp u; omega), k1, qc_gdt, k2, h4, if_pos (show nI 4 = 4 from rfl)]
  unfold fX12_expression_b158 fX12_expression_b160
  rw [if_neg (by decide), if_neg (by decide)]
  rfl
/-- a joint is taken -/
theorem mo_step (hb : qt_B b len) (hS : mS b ln len q I0) (h : mR b q I0 L0 D0 none st o J P F ds I L D) (hG : st.1 ≤ len ∧ qt_m b st.1 ≠ 63) (hF : F.length ≤ 40) (hJ : J.length < 420) (hs : qs_sv (qt_m b st.1) ≠ 0) (ht : tpL (qs_sv (qt_m b st.1)) J F) :
    ∃ (I' : qTI) (L' : qTL) (D' : qTD), mOu w k27 (n + 1) I L D R x1 = k27 (I', L', D', R, x1, 1, if 3 ≤ qs_sv (qt_m b st.1) then 0 else 1) ∧ (∀ st', qs_adv b st = .inr st' → mR b q I0 L0 D0 none st' o ((qs_sv (qt_m b st.1), qs_jo (qt_m b st.1), nI (qt_from b st.1)) :: J) P F ds I' L' D') ∧ ∀ e, qs_adv b st = .inl e → mR b q I0 L0 D0 (some e) st o ((qs_sv (qt_m b st.1), qs_jo (qt_m b st.1), nI (qt_from b st.1)) :: J) P F ds I' L' D' := by
  have hm := qt_m_lt b st.1
  have hm2 := hG.2
  have hm : qt_m b st.1 < 62 := by omega
  have hts := mr_ts (w := w) (R := R) hb hS h hG
  obtain ⟨s1, s2, s3, s4, s5, s6, s7, s8⟩ := jo_sv hm
  -- behind joinsDown
  have key : ∃ (I' : qTI) (L' : qTL) (D' : qTD), (qc_bd (fX12_opHere w I L D R (nI (qs_sv (qt_m b st.1)))) fun r29 I29 L29 D29 R29 => qc_bd (fX12_joint w I29 L29 D29 R29 (nI (qs_sv (qt_m b st.1))) r29) fun r30 I30 L30 D30 R30 => fX12_expression_b196 w k27 I30 L30 D30 R30 x1 (nI (qs_sv (qt_m b st.1)))) = k27 (I', L', D', R, x1, 1, if 3 ≤ qs_sv (qt_m b st.1) then 0 else 1) ∧ (∀ st', qs_adv b st = .inr st' → mR b q I0 L0 D0 none st' o ((qs_sv (qt_m b st.1), qs_jo (qt_m b st.1), nI (qt_from b st.1)) :: J) P F ds I' L' D') ∧ ∀ e, qs_adv b st = .inl e → mR b q I0 L0 D0 (some e) st o ((qs_sv (qt_m b st.1), qs_jo (qt_m b st.1), nI (qt_from b st.1)) :: J) P F ds I' L' D' := by
    obtain ⟨I1, j1, j2⟩ := mr_joint (w := w) (R := R) h (s := qs_sv (qt_m b st.1)) (p := qs_jo (qt_m b st.1)) (by omega) hJ
    rw [mR_10 h] at j2
    obtain ⟨I2, L2, D2, k1, k2, k3⟩ := mr_next (w := w) (R := R) hb hS j2 hG
    refine ⟨I2, L2, D2, ?_, k2, k3⟩
    rw [mq_op hts hs (by omega), qc_bds, j1, qc_bds]
    unfold fX12_expression_b196 fX12_expression_b211
    rw [k1, qc_bds]
    have e3 : (3 : Int32) ≤ nI (qs_sv (qt_m b st.1)) ↔ 3 ≤ qs_sv (qt_m b st.1) := qi_le (a := 3) (by decide) (by omega)
    by_cases z : 3 ≤ qs_sv (qt_m b st.1)
    · rw [if_pos (e3.mpr z), if_pos z]
    · rw [if_neg (fun u => z (e3.mp u)), if_neg z]
  obtain ⟨I', L', D', k1, k2, k3⟩ := key
  refine ⟨I', L', D', ?_, k2, k3⟩
  unfold mOu
  rw [if_pos (mR_15 h), mq_str hts, qc_bds, if_neg hs]
  have e4 : nI (qs_sv (qt_m b st.1)) = 4 ↔ qs_sv (qt_m b st.1) = 4 := qi_nI_inj' (j := 4) (by omega) (by decide)
  have em : ¬ nI (qs_sv (qt_m b st.1)) = -1 := qi_nI_m1 (by omega)
  by_cases z : qs_sv (qt_m b st.1) = 4
  · have ht5 : tpL 5 J F := by
      obtain ⟨f, F', g1, g2⟩ := ht
      refine ⟨f, F', g1, g2.imp id ?_⟩
      rintro ⟨j, J', a1, a2, a3⟩
      exact ⟨j, J', a1, a2, by omega⟩
    rw [if_pos (e4.mpr z), show (5 : Int32) = nI 5 from rfl, jd_no (by decide) h hF (by omega) ht5, qc_bds]
    have tail : fX12_expression_b157 w k27 I L D R x1 (nI (qs_sv (qt_m b st.1))) = k27 (I', L', D', R, x1, 1, if 3 ≤ qs_sv (qt_m b st.1) then 0 else 1) := by
      unfold fX12_expression_b157 fX12_expression_b158 fX12_expression_b160
      have jd := jd_no (w := w) (R := R) (n := 4095) (s := qs_sv (qt_m b st.1)) (by omega) h hF (by omega) ht
      have jd : fX12_joinsDown w I L D R (nI (qs_sv (qt_m b st.1))) = some ((), I, L, D, R) := jd
      rw [if_neg em, if_pos rfl, jd, qc_bds, if_pos (mR_15 h)]
      exact k1
    obtain ⟨f, F', hf, hor⟩ := ht
    subst hf
    rw [List.length_cons] at hF
    obtain ⟨g1, g2, g3⟩ := mR_fj h (by omega)
    rw [g1, qc_gdt, g2, h.2.2.2.1.1]
    rcases hor with y | ⟨j, J', rfl, y1, y2⟩
    · rw [if_pos ((qi_le (by omega) (by omega)).mpr (by omega))]
      exact tail
    · rw [List.length_cons] at hJ
      obtain ⟨k1, k2, k3⟩ := mR_jt h (by omega)
      rw [h.2.2.2.1.1] at k1 k2
      have := qi_le (a := (j :: J').length) (b := f.2.1) (by rw [List.length_cons]; omega) (by omega)
      rw [if_neg (fun u => by have := this.mp u; rw [List.length_cons] at this; omega), k1, qc_gdt, k2, if_neg (fun u => by have := qi_nI_inj (j := 4) (by omega) (by decide) u; omega)]
      exact tail
  · rw [if_neg (fun u => z (e4.mp u)), if_neg em, jd_no (by omega) h hF (by omega) ht, qc_bds, if_pos (mR_15 h)]
    exact k1
/-- a joint that binds as much is joined first -/
theorem mo_red (h : mR b q I0 L0 D0 none st o J P F ds I L D) (hts : mTs w I L D R (qt_m b st.1)) (hF : F.length ≤ 40) (hJ : J.length ≤ 420) (hm : qt_m b st.1 < 62) {I' : qTI} {τ' : Option (Nat × Nat)} {st' : qP} {o' : Nat} {J' : qJs} {P' : List Nat} {F' : qFs} {ds' : List qDen} (hj : fX12_joins w I L D R = some ((), I', L, D, R)) (h' : mR b q I0 L0 D0 τ' st' o' J' P' F' ds' I' L D) (hst : st'.1 = st.1) (hF' : F' = F) (hJ' : J'.length ≤ 420) (hG : tpG (qs_sv (qt_m b st.1)) J F) (h4 : qs_sv (qt_m b st.1) = 4 → tpG 5 J F) (htk : τ' = none → mTs w I' L D R (qt_m b st.1)) :
    (τ' = none → mOu w k27 (n + 1) I L D R x1 = mOu w k27 n I' L D R x1) ∧ (∀ e, τ' = some e → ∀ N, k27 = fX12_expression_l27 w (N + 1) → 1 ≤ n → mOu w k27 (n + 1) I L D R x1 = some (0, I', L, D, R)) := by
  obtain ⟨s1, s2, s3, s4, s5, s6, s7, s8⟩ := jo_sv hm
  have e4 : nI (qs_sv (qt_m b st.1)) = 4 ↔ qs_sv (qt_m b st.1) = 4 := qi_nI_inj' (j := 4) (by omega) (by decide)
  have em : ¬ nI (qs_sv (qt_m b st.1)) = -1 := qi_nI_m1 (by omega)
  have hG0 : tpG 0 J F := by
    obtain ⟨f, F1, j, J1, a1, a2, a3, a4⟩ := hG
    exact ⟨f, F1, j, J1, a1, a2, a3, Nat.zero_le _⟩
  have left : mOu w k27 (n + 1) I L D R x1 = if qs_sv (qt_m b st.1) = 0 then mMd w k27 (n + 1) I L D R x1 else mOu w k27 (n + 1) I L D R x1 := by
    by_cases z : qs_sv (qt_m b st.1) = 0
    · rw [if_pos z]; exact mo_mid h hts z
    · rw [if_neg z]
  constructor
  · intro hn
    subst hn
    have hts' := htk rfl
    by_cases z : qs_sv (qt_m b st.1) = 0
    · have hts2 : mTs w I' L D R (qt_m b st'.1) := by rw [hst]; exact hts'
      rw [mo_mid h hts z, mo_mid h' hts2 (by rw [hst]; exact z)]
      unfold mMd
      rw [show (0 : Int32) = nI 0 from rfl, jd_go (by decide) h hF hJ hG0, hj, qc_bds]
    · unfold mOu
      rw [if_pos (mR_15 h), mq_str hts, qc_bds, if_neg z, if_pos (mR_15 h'), mq_str hts', qc_bds, if_neg z]
      by_cases y : qs_sv (qt_m b st.1) = 4
      · rw [if_pos (e4.mpr y), show (5 : Int32) = nI 5 from rfl, jd_go (by decide) h hF hJ (h4 y), hj, qc_bds, if_pos (e4.mpr y)]
      · rw [if_neg (fun u => y (e4.mp u)), if_neg em, jd_go (by omega) h hF hJ hG, hj, qc_bds, if_neg (fun u => y (e4.mp u)), if_neg em]
  · intro e he N hk hn
    subst he
    subst hk
    obtain ⟨n, rfl⟩ : ∃ k, n = k + 1 := ⟨n - 1, by omega⟩
    by_cases z : qs_sv (qt_m b st.1) = 0
    · rw [mo_mid h hts z]
      unfold mMd fX12_expression_b306
      have e0 := jd_go (w := w) (R := R) (n := n + 1) (s := 0) (by decide) h hF hJ hG0
      have e0 : fX12_joinsDown_l0 w (n + 1 + 1) (I, L, D, R, 0) = _ := e0
      rw [e0, hj, qc_bds, mE_jd h', qc_bds, if_neg (mR_15e h')]
      exact mE_309 (n := 4095) h' _
    · unfold mOu
      rw [if_pos (mR_15 h), mq_str hts, qc_bds, if_neg z]
      by_cases y : qs_sv (qt_m b st.1) = 4
      · rw [if_pos (e4.mpr y), show (5 : Int32) = nI 5 from rfl, jd_go (by decide) h hF hJ (h4 y), hj, qc_bds, mE_jd h', qc_bds]
        have t0 : fX12_expression_b157 w (fX12_expression_l27 w (N + 1)) I' L D R x1 (nI (qs_sv (qt_m b st.1))) = some (0, I', L, D, R) := by
          unfold fX12_expression_b157 fX12_expression_b158 fX12_expression_b160
          have jd : fX12_joinsDown w I' L D R (nI (qs_sv (qt_m b st.1))) = some ((), I', L, D, R) := mE_jd (n := 4095) h' _
          rw [if_neg em, if_pos rfl, jd, qc_bds, if_neg (mR_15e h')]
          exact mE_196 h' _
        have t1 : fX12_expression_b158 w (fX12_expression_l27 w (N + 1)) I' L D R x1 (nI (qs_sv (qt_m b st.1))) 1 = some (0, I', L, D, R) := by
          unfold fX12_expression_b158 fX12_expression_b160
          rw [if_neg em, if_neg (by decide), mMd_of]
          exact mE_Md (n := 4095) h'
        obtain ⟨f, F1, j, J1, a1, a2, a3, a4⟩ := hG
        subst hF'
        subst a1
        rw [List.length_cons] at hF
        obtain ⟨g1, g2, g3⟩ := mR_fj h' (by omega)
        rw [g1, qc_gdt, g2, h'.2.2.2.1.1]
        by_cases u : J'.length ≤ f.2.1
        · rw [if_pos ((qi_le (by omega) (by omega)).mpr u)]
          exact t0
        · rw [if_neg (fun v => u ((qi_le (by omega) (by omega)).mp v)), show nI J'.length - 1 = nI (J'.length - 1) from qi_sub (a := J'.length) (b := 1) (by omega), qi_inbN (by omega) (by decide), qc_gdt]
          split
          · exact t1
          · exact t0
      · rw [if_neg (fun u => y (e4.mp u)), if_neg em, jd_go (by omega) h hF hJ hG, hj, qc_bds, mE_jd h', qc_bds, if_neg (mR_15e h')]
        exact mE_196 h' _
end
