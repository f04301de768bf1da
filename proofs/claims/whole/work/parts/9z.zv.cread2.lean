/-! the class reads a query: first, by, the end, the start -/
section
variable {w : qcW} {b ln : Nat → Nat} {len c B sort : Nat} {I : qTI} {L : qTL} {D : qTD} {R : qTR} {st : qP} {K : qKs} {z : qZS} {x : qX}
theorem r_long (hW : qc_WF w) (hc : c = 270 ∨ c = 273 ∨ c = 276) {l : List (Nat × Nat)} {h pk : Nat} (hk : kC c l h pk I) : fX0_isTooLong w I L D R c = some (decide (200 < l.length ∨ 24 < pk), I, L, D, R) := by
  obtain ⟨⟨b1, b2, b3⟩, k2, k3, k4, -⟩ := hk
  unfold fX0_isTooLong
  rw [qc_WF_i hW hc, qc_gdt, k2, k4]
  by_cases y : 200 < l.length
  · rw [if_pos (show (200 : Int32) < nI l.length from (qi_lt (a := 200) (by decide) (by omega)).mpr y), decide_eq_true (Or.inl y)]
  · rw [if_neg (show ¬ (200 : Int32) < nI l.length from fun u => y ((qi_lt (a := 200) (by decide) (by omega)).mp u))]
    by_cases y2 : 24 < pk
    · rw [if_neg (show ¬ nI pk ≤ (24 : Int32) from fun u => by have := (qi_le (b := 24) (by omega) (by decide)).mp u; omega), decide_eq_true (Or.inr y2)]
    · rw [if_pos (show nI pk ≤ (24 : Int32) from (qi_le (b := 24) (by omega) (by decide)).mpr (by omega)), decide_eq_false (by omega)]
/-- what is at the end -/
def rP (b ln : Nat → Nat) (len : Nat) (r : Nat × qXS) (_ : Unit) (I : qTI) (D : qTD) (R : qTR) : Prop := (q_big ln r.1 r.2.1 → rE 6000 (6, len) I R) ∧ (¬ q_big ln r.1 r.2.1 → rT b ln len r.1 r.2 I D R)
theorem r_195 (hW : qc_WF w) {s : qXS} (h : rT b ln len sort s I D R) : ∃ (I' : qTI) (R' : qTR), fX2_read_b195 w I L D R = some ((), I', L, D, R') ∧ rF I D R I' D R' ∧ rP b ln len (sort, s) () I' D R' := by
  obtain ⟨K, hG, hK⟩ := id h
  obtain ⟨⟨h0, -, k0⟩, ⟨h1, -, k1⟩, h2, -, k2⟩ := hK
  have a0 := hG.1.2.2.2.2.2.2 270 (by decide)
  have a1 := hG.1.2.2.2.2.2.2 273 (by decide)
  have a2 := hG.1.2.2.2.2.2.2 276 (by decide)
  rw [k0] at a0
  rw [k1] at a1
  rw [k2] at a2
  have e0 := r_long (w := w) (L := L) (D := D) (R := R) hW (by decide) a0
  have e1 := r_long (w := w) (L := L) (D := D) (R := R) hW (by decide) a1
  have e2 := r_long (w := w) (L := L) (D := D) (R := R) hW (by decide) a2
  dsimp only at e0 e1 e2
  classical
  have key : fX2_read_b195 w I L D R = if q_big ln sort s.1 then fX2_read_b231 w I L D R else fX2_read_b250 w I L D R := by
    unfold fX2_read_b195
    rw [e0, qc_bds]
    unfold q_big
    by_cases y0 : 200 < (q_c0 s.1.1).length ∨ 24 < q_n0 s.1.1
    · rw [if_pos (decide_eq_true y0), if_pos (by rcases y0 with y | y; exact Or.inl y; exact Or.inr (Or.inr (Or.inr (Or.inl y))))]
    · rw [if_neg (fun u => y0 (of_decide_eq_true u)), e1, qc_bds]
      by_cases y1 : 200 < (q_c1 ln sort s.1).length ∨ 24 < q_n1 sort s.1
      · rw [if_pos (decide_eq_true y1), if_pos (by rcases y1 with y | y; exact Or.inr (Or.inl y); exact Or.inr (Or.inr (Or.inr (Or.inr (Or.inl y)))))]
      · rw [if_neg (fun u => y1 (of_decide_eq_true u)), e2, qc_bds]
        by_cases y2 : 200 < (q_c0 s.1.2.2.1).length ∨ 24 < q_n0 s.1.2.2.1
        · rw [if_pos (decide_eq_true y2), if_pos (by rcases y2 with y | y; exact Or.inr (Or.inr (Or.inl y)); exact Or.inr (Or.inr (Or.inr (Or.inr (Or.inr y)))))]
        · rw [if_neg (fun u => y2 (of_decide_eq_true u)), if_neg (by
            rintro (y | y | y | y | y | y)
            · exact y0 (Or.inl y)
            · exact y1 (Or.inl y)
            · exact y2 (Or.inl y)
            · exact y0 (Or.inr y)
            · exact y1 (Or.inr y)
            · exact y2 (Or.inr y))]
  rw [key]
  by_cases y : q_big ln sort s.1
  · rw [if_pos y]
    obtain ⟨I', R', b1, b2, b3, -⟩ := r_refuse (w := w) (L := L) hG (k := 6) (j := len) (by decide)
    have b1 : fX9_refuse w I L D R 6 (nI len) = some ((), I', L, D, R') := b1
    refine ⟨I', R', ?_, b2, fun _ => rE_up b3 (by decide), fun u => absurd y u⟩
    unfold fX2_read_b231 fX2_read_b250
    rw [hG.1.1.1, b1, qc_bds]
  · rw [if_neg y]
    exact ⟨I, R, rfl, rF_rf _ _ _, fun u => absurd u y, fun _ => h⟩
theorem r_178 (hW : qc_WF w) {s : qXS} (h : rT b ln len sort s I D R) : rU (rP b ln len) (rE 6000) L (q_end b sort s) I D R (fX2_read_b178 w I L D R) := by
  obtain ⟨K, hG, hK⟩ := id h
  unfold fX2_read_b178 q_end
  rw [(rG_m hG).2, qc_gdt, (rG_m hG).1]
  by_cases y : qt_m b s.2.1 = 0
  · rw [if_pos y, if_pos y]
    obtain ⟨I', R', a1, a2, a3⟩ := r_195 (w := w) (L := L) hW h
    exact ⟨(), I', D, R', a1, a2, fun a u => (by cases u; exact a3), fun e u => (by cases u)⟩
  · rw [if_neg y, if_neg y]
    obtain ⟨I', R', a1, a2, a3, -⟩ := r_misplaced (w := w) (L := L) hG
    rw [a1, qc_bds, eO_195 hW a3]
    exact ⟨(), I', D, R', rfl, a2, fun a u => (by cases u), fun e u => (by cases u; exact rE_up a3 (by decide))⟩
theorem eO_eq {α : Type} {out : qcO α} {r : α} {e : Nat × Nat} {B2 : Nat} (h : rE B e I R) (hB : B ≤ B2) (ho : out = some (r, I, L, D, R)) : eO (rE B2 e) I L D R out := by
  rw [ho]
  exact eO_some (rE_up h hB) r
theorem r_43 (hW : qc_WF w) (hb : qt_B b len) (h : rT b ln len 0 (x, st) I D R) : rU (rP b ln len) (rE 6000) L (qs_b (q_first b x st) fun s => q_end b 0 s) I D R (fX2_read_b43 w I L D R) := by
  obtain ⟨K, hG, hK⟩ := id h
  have hG : rG b ln len st K (q_z 0 x) I D R := hG
  unfold fX2_read_b43 q_first
  by_cases y : qt_m b st.1 = 8
  · rw [if_pos y, qs_ba]
    refine rU_took hb hG (by decide) (by decide) y (fun st1 I1 D1 R1 hr1 g1 => ?_) (fun e I1 D1 R1 he => ?_)
    · rw [if_pos rfl]
      have e2 : (qs_b (if qt_m b st1.1 = 1 then qs_b (qs_adv b st1) fun st2 => .inr (q_fst x (qt_n b st1.1), st2) else .inl (2, qt_from b st1.1)) fun s => q_end b 0 s) = qs_b (qs_ex b 1 st1) fun st2 => q_end b 0 (q_fst x (qt_n b st1.1), st2) := by
        unfold qs_ex
        split
        · rw [qs_ba]; rfl
        · rfl
      rw [e2]
      refine rU_tr (rF_I 12 (I1 268 4)) ?_
      by_cases y1 : qt_m b st1.1 = 1
      · refine rU_bd (r_expect hb (rG_12 g1 (I1 268 4)) (by decide) (by decide)) (fun st2 _ I2 D2 R2 hr2 g2 => ?_) (fun e _ I2 D2 R2 he => eO_eq he (by decide) (eO_178 hW he))
        refine r_178 hW ⟨K, ?_, hK.1, hK.2.1, hK.2.2⟩
        have : q_z 0 (q_fst x (qt_n b st1.1)) = ((q_z 0 x).1, (q_z 0 x).2.1, (q_z 0 x).2.2.1, I1 268 4, (q_z 0 x).2.2.2.2) := by
          rw [g1.1.2.2.2.1.2.2.2.2.1 (Or.inl y1)]
          rfl
        show rG b ln len st2 K (q_z 0 (q_fst x (qt_n b st1.1))) I2 D2 R2
        rw [this]
        exact g2
      · refine rU_bd (r_expect hb (rG_12 g1 (I1 268 4)) (by decide) (by decide)) (fun st2 _ I2 D2 R2 hr2 g2 => ?_) (fun e _ I2 D2 R2 he => eO_eq he (by decide) (eO_178 hW he))
        unfold qs_ex at hr2
        rw [if_neg y1] at hr2
        cases hr2
    · rw [if_pos rfl]
      have he2 := rE_I he 12 (I1 268 4)
      refine eO_I 12 (I1 268 4) ?_
      rw [eO_expect he2 (by decide) (by decide), qc_bds]
      exact eO_eq he2 (by decide) (eO_178 hW he2)
  · rw [if_neg y, r_took0 hG (by decide) y, qc_bds, if_neg (by decide)]
    exact r_178 hW h
theorem r_whole {k : Int32} {m : Nat} (hk : k = nI m) (hm : m ≤ 4) : fX2_isWhole w I L D R k = some (qs_wh m, I, L, D, R) := by
  subst hk
  rcases (show m = 0 ∨ m = 1 ∨ m = 2 ∨ m = 3 ∨ m = 4 by omega) with rfl | rfl | rfl | rfl | rfl <;> rfl
theorem r_102 (hW : qc_WF w) (hb : qt_B b len) (hln : ∀ c, c < 10 → ln c ≤ 8) (h : rT b ln len 1 (x, st) I D R) (hx : x.2.2.1 = none) : rU (rP b ln len) (rE 6000) L (qs_b (q_by b ln qN x st) fun s => q_end b 1 s) I D R (fX2_read_b102 w I L D R) := by
  obtain ⟨K, hG, hK⟩ := id h
  have hG : rG b ln len st K (q_z 1 x) I D R := hG
  have hK : rK ln 1 x K := hK
  unfold fX2_read_b102 q_by
  by_cases y : qt_m b st.1 = 14
  · rw [if_pos y, qs_ba]
    refine rU_took hb hG (by decide) (by decide) y (fun st1 I1 D1 R1 hr1 g1 => ?_) (fun e I1 D1 R1 he => ?_)
    · rw [if_pos rfl, qs_ba]
      refine rU_bd (rU_sum0 hW hb hln (c := 276) (by decide) g1 (rK_2 hK hx) (Or.inl ⟨rfl, rfl⟩)) (fun q k I2 D2 R2 hr hp => ?_) (fun e v I2 D2 R2 he => ?_)
      · obtain ⟨hk, g2, g4, gQ⟩ := hp
        rw [r_whole hk gQ.2.1.1, qc_bds, qs_fb, qs_bi, rG_f g2]
        have hv : qc_b (qs_wh q.1.1) = if qs_wh q.1.1 = true then 1 else 0 := by cases qs_wh q.1.1 <;> rfl
        refine rU_fit g2 hv (fun hok => ?_) (fun e I3 D3 R3 he o1 o2 => eO_eq he (by decide) (eO_178 hW he))
        refine r_178 hW ⟨_, g2, ?_, ?_, ⟨1, fun u => (by cases u), kU_at _ _ _⟩⟩
        · rw [kU_ne _ _ (by decide)]; exact hK.1
        · rw [kU_ne _ _ (by decide)]; exact hK.2.1
      · have hwh : ∃ v2, fX2_isWhole w I2 L D2 R2 v = some (v2, I2, L, D2, R2) := by
          unfold fX2_isWhole
          split
          · exact ⟨_, rfl⟩
          · split <;> exact ⟨_, rfl⟩
        obtain ⟨v2, e2⟩ := hwh
        rw [e2, qc_bds, eO_fit he.1, qc_bds]
        exact eO_eq he.1 (by decide) (eO_178 hW he.1)
    · rw [if_pos rfl]
      have h1 := eP_c he 276
      refine eO_c (c := 276) ?_
      rw [eO_rc0 (by decide) h1, qc_bds]
      have e2 : fX2_isWhole w I1 L D1 (qc_u R1 267 4 276) 0 = some (false, I1, L, D1, qc_u R1 267 4 276) := rfl
      rw [e2, qc_bds, eO_fit h1.1, qc_bds]
      exact eO_eq h1.1 (by decide) (eO_178 hW h1.1)
  · rw [if_neg y, r_took0 hG (by decide) y, qc_bds, if_neg (by decide)]
    exact r_178 hW h
/-- the start -/
def rK0 : qKs := fun _ => ([], 0, 0)
theorem kC_0 {I : qTI} (h2 : I c 2 = 0) (h3 : I c 3 = 0) (h4 : I c 4 = 0) : kC c [] 0 0 I := ⟨⟨Nat.zero_le _, Nat.zero_le _, Nat.zero_le _⟩, h2, h3, h4, fun q hq => (by cases hq), fun _ i q hq => (by cases hq)⟩
theorem r_begin (hW : qc_WF w) (hb : qt_B b len) (hT : tpX b len I) (hC : clX ln I) (hR : qc_FR R) : ∃ (I' : qTI) (D' : qTD) (R' : qTR), fX2_begin w I L D R = some ((), I', L, D', R') ∧ rF I D R I' D' R' ∧
    (qt_m b 0 ≠ 63 → rG b ln len (0, []) rK0 (nI 2, -1, 0, 16, R' 267 7, 10) I' D' R') ∧ (qt_m b 0 = 63 → rE 5000 (1, qt_from b 0) I' R') := by
  have hF : qcF = (qcF - 4) + 1 + 1 + 1 + 1 := by unfold qcF; omega
  obtain ⟨I1, hI1⟩ : ∃ I1, I1 = qc_u (qc_u (qc_u (qc_u (qc_u (qc_u (qc_u (qc_u (qc_u (qc_u (qc_u (qc_u (qc_u (qc_u (qc_u I 270 2 0) 270 3 0) 270 4 0) 273 2 0) 273 3 0) 273 4 0) 276 2 0) 276 3 0) 276 4 0) 267 5 0) 267 6 0) 267 9 2) 267 10 (-1)) 267 11 0) 267 12 16 := ⟨_, rfl⟩
  have s270 : qcSX 270 = true := rfl
  have s273 : qcSX 273 = true := rfl
  have s276 : qcSX 276 = true := rfl
  have e0 : fX2_begin w I L D R = qc_bd (fX9_start w I1 L D (qc_u R 267 8 10)) fun r2 I2 L2 D2 R2 => some ((), I2, L2, D2, R2) := by
    have e1 : ∀ J : qTI, fX0_begin w J L D R 270 = some ((), qc_u (qc_u (qc_u J 270 2 0) 270 3 0) 270 4 0, L, D, R) := fun J => by
      unfold fX0_begin
      rw [qc_WF_i hW (by decide), qc_gdt, s270, qc_gdt, qc_gdt, qc_gdt]
    have e2 : ∀ J : qTI, fX0_begin w J L D R 273 = some ((), qc_u (qc_u (qc_u J 273 2 0) 273 3 0) 273 4 0, L, D, R) := fun J => by
      unfold fX0_begin
      rw [qc_WF_i hW (by decide), qc_gdt, s273, qc_gdt, qc_gdt, qc_gdt]
    have e3 : ∀ J : qTI, fX0_begin w J L D R 276 = some ((), qc_u (qc_u (qc_u J 276 2 0) 276 3 0) 276 4 0, L, D, R) := fun J => by
      unfold fX0_begin
      rw [qc_WF_i hW (by decide), qc_gdt, s276, qc_gdt, qc_gdt, qc_gdt]
    unfold fX2_begin
    rw [hF, fX2_begin_l2_s]
    unfold fX2_begin_b2
    rw [if_neg (by decide), show qc_inb 0 3 = true from by decide, qc_gdt, show Int32.toNatClampNeg 0 = 0 from rfl, qfr_269_0 hR, qc_WF_i hW (by decide), qc_gdt, e1, qc_bds, fX2_begin_l2_s]
    unfold fX2_begin_b2
    rw [if_neg (by decide), show qc_inb (0 + 1) 3 = true from by decide, qc_gdt, show Int32.toNatClampNeg (0 + 1) = 1 from by decide, qfr_269_1 hR, qc_WF_i hW (by decide), qc_gdt, e2, qc_bds, fX2_begin_l2_s]
    unfold fX2_begin_b2
    rw [if_neg (by decide), show qc_inb (0 + 1 + 1) 3 = true from by decide, qc_gdt, show Int32.toNatClampNeg (0 + 1 + 1) = 2 from by decide, qfr_269_2 hR, qc_WF_i hW (by decide), qc_gdt, e3, qc_bds, fX2_begin_l2_s]
    unfold fX2_begin_b2
    rw [if_pos (by decide), ← hI1]
  rw [e0]
  unfold fX9_start
  have off : ∀ a, a ≠ 267 → a ≠ 270 → a ≠ 273 → a ≠ 276 → I1 a = I a := fun a a1 a2 a3 a4 => by
    rw [hI1]
    simp only [qc_u_off _ _ a1, qc_u_off _ _ a2, qc_u_off _ _ a3, qc_u_off _ _ a4]
  obtain ⟨I2, hI2⟩ : ∃ I2, I2 = qc_u (qc_u (qc_u I1 268 3 0) 268 6 0) 268 7 0 := ⟨_, rfl⟩
  have off2 : ∀ a, a ≠ 268 → I2 a = I1 a := fun a a1 => by
    rw [hI2]
    simp only [qc_u_off _ _ a1]
  rw [← hI2]
  have hT2 : tpX b len I2 := ⟨by rw [off2 265 (by decide), off 265 (by decide) (by decide) (by decide) (by decide)]; exact hT.1, fun p hp => by rw [off2 266 (by decide), off 266 (by decide) (by decide) (by decide) (by decide)]; exact hT.2 p hp⟩
  have hC2 : clX ln I2 := by
    unfold clX
    rw [off2 258 (by decide), off 258 (by decide) (by decide) (by decide) (by decide), off2 259 (by decide), off 259 (by decide) (by decide) (by decide) (by decide)]
    exact hC
  obtain ⟨I', D', R', a1, a2, a3, a4, a5, a6⟩ := cx_tk (w := w) (L := L) (D := D) (R := qc_u R 267 8 10) hb hT2 (show I2 268 6 = 0 by rw [hI2]; simp [qc_u]) (p := 0) (show I2 268 3 = nI 0 by rw [hI2]; simp [qc_u]; rfl) (Nat.zero_le _)
  rw [a1, qc_bds, qc_bds]
  have hFR : qc_FR R' := fun q hq => by
    rw [a4 _ _ (qfr_268 q hq).1, qc_u_ne _ _ (by have := qfr_267 q hq; omega)]
    exact hR q hq
  have c267 : ∀ k, I' 267 k = I1 267 k := fun k => by rw [a2 267 k (by decide), off2 267 (by decide)]
  have kc : ∀ c, (c = 270 ∨ c = 273 ∨ c = 276) → kC c [] 0 0 I' := fun c hc => by
    refine kC_0 ?_ ?_ ?_
    all_goals (rw [a2 c _ (by omega), off2 c (by omega), hI1]; rcases hc with rfl | rfl | rfl <;> simp [qc_u])
  refine ⟨I', D', R', rfl, ⟨fun x y1 y2 y3 => funext fun k => ?_, fun x y1 y2 => funext fun k => a3 x k y1, fun x k y1 y2 => ?_⟩, fun h63 => ⟨⟨⟨?_, ?_⟩, ?_, hFR, a5 h63, ?_, ⟨?_, fun i v hv => (by cases hv)⟩, fun c hc => kc c hc⟩, ⟨?_, ?_, ?_, ?_, rfl, ?_⟩, Nat.zero_le _, h63, show 4 * 0 ≤ 0 + 1 by omega, fun _ => show 4 * 0 ≤ 0 by omega⟩, fun h63 => ⟨a6 h63, hFR, fun c hc => ⟨0, Nat.zero_le _, (kc c hc).2.1⟩⟩⟩
  · rw [a2 x k y2, off2 x y2, off x y1 (by omega) (by omega) (by omega)]
  · rw [a4 x k y2, qc_u_ne _ _ (by omega)]
  · rw [a2 265 _ (by decide)]; exact hT2.1
  · intro p hp
    rw [a2 266 _ (by decide)]; exact hT2.2 p hp
  · intro cc hcc
    rw [a2 258 _ (by decide)]
    rcases hC2 cc hcc with u | ⟨i, u1, u2, u3, u4⟩
    · exact Or.inl u
    · exact Or.inr ⟨i, u1, u2, (a2 259 _ (by decide)).trans u3, u4⟩
  · rw [c267, hI1]; simp [qc_u]; rfl
  · rw [c267, hI1]; simp [qc_u]; rfl
  · rw [c267, hI1]; simp [qc_u]; rfl
  · rw [c267, hI1]; simp [qc_u]
  · rw [c267, hI1]; simp [qc_u]
  · rw [c267, hI1]; simp [qc_u]
  · rw [a4 267 8 (by decide), qc_u_at]
end
