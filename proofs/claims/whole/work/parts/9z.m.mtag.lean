/-! the reference reads as the spec does: signs, parts -/
/-- the top joint of a frame: what may follow with strength x and more -/
def tpJ (x : Nat) (J : qJs) (F : qFs) : Prop := ∃ f F', F = f :: F' ∧ (f.2.1 = J.length ∨ ∃ j J', J = j :: J' ∧ f.2.1 ≤ J'.length ∧ (j.1 < x ∨ (x = 3 ∧ j.1 = 3)))
def mA (w : qcW) (b ln : Nat → Nat) (len q : Nat) (I0 : qTI) (L0 : qTL) (D0 : qTD) (R : qTR) (x1 : Int32) (n : Nat) : Prop :=
  (∀ o st J P F ds N I L D, mR b q I0 L0 D0 none st o J P F ds I L D → mG b len st o J P F ds N → (∃ f F', F = f :: F' ∧ f.2.1 = J.length) → (1 < F.length ∨ x1 ≠ 0) → mV b len q I0 L0 D0 R (K_e w R x1) o J P F ds (qs_p b ln n 0 0 0 o (d_lf 0 []) st) (fX12_expression_l27 w N (I, L, D, R, x1, 1, 1))) ∧
  (∀ x o st J P F ds N I L D, mR b q I0 L0 D0 none st o J P F ds I L D → mG b len st o J P F ds N → 1 ≤ x → x ≤ 9 → tpJ x J F → mV b len q I0 L0 D0 R (K_m w b R x1 x) o J P F ds (qs_p b ln n 2 x 0 o (d_lf 0 []) st) (fX12_expression_l27 w N (I, L, D, R, x1, 1, if x ≤ 3 then 1 else 0))) ∧
  (∀ o st J P F ds N I L D x3, mR b q I0 L0 D0 none st o J P F ds I L D → mG b len st o J P F ds N → (qt_m b st.1 = 19 → x3 = 0) → (∃ f F', F = f :: F' ∧ f.2.1 ≤ J.length) → mV b len q I0 L0 D0 R (K_o w R x1) o J P F ds (qs_p b ln n 4 0 0 o (d_lf 0 []) st) (fX12_expression_l27 w N (I, L, D, R, x1, 1, x3))) ∧
  (∀ o st J P F ds N I L D x3, mR b q I0 L0 D0 none st o J P F ds I L D → mG b len st o J P F ds N → (qt_m b st.1 = 19 → x3 = 0) → qt_m b st.1 ≠ 49 ∧ qt_m b st.1 ≠ 53 → mV b len q I0 L0 D0 R (K_o w R x1) o J P F ds (qs_p b ln n 5 0 0 o (d_lf 0 []) st) (fX12_expression_l27 w N (I, L, D, R, x1, 1, x3))) ∧
  (∀ o st J P F ds N I L D x3, mR b q I0 L0 D0 none st o J P F ds I L D → mG b len st o J P F ds N → qt_m b st.1 = 3 → mV b len q I0 L0 D0 R (K_o w R x1) o J P F ds (qs_p b ln n 6 0 0 o (d_lf 0 []) st) (fX12_expression_l27 w N (I, L, D, R, x1, 1, x3))) ∧
  (∀ o st J P F ds N I L D x3, mR b q I0 L0 D0 none st o J P F ds I L D → mG b len st o J P F ds N → (qt_m b st.1 = 19 → x3 = 0) → (qt_m b st.1 ≠ 49 ∧ qt_m b st.1 ≠ 53) ∧ ¬ (1 ≤ qt_m b st.1 ∧ qt_m b st.1 ≤ 3) ∧ ¬ (16 ≤ qt_m b st.1 ∧ qt_m b st.1 ≤ 18) ∧ qt_m b st.1 ≠ 54 → mV b len q I0 L0 D0 R (K_o w R x1) o J P F ds (qs_p b ln n 7 0 0 o (d_lf 0 []) st) (fX12_expression_l27 w N (I, L, D, R, x1, 1, x3))) ∧
  (∀ o st J P F ds N I L D x d, mR b q I0 L0 D0 none st o J (x :: P) F ds I L D → mG b len st o J (x :: P) F ds (N + 1) → ds[x]? = some d → qs_D st.2.length d → d.2.2.1 ≤ st.1 → (∃ f F', F = f :: F' ∧ f.2.1 = J.length) → qt_m b st.1 = 59 → mV b len q I0 L0 D0 R (K_e w R x1) o J P F ds (qs_p b ln n 1 0 0 o d st) (fX12_expression_b250 w (fX12_expression_l27 w N) I L D R x1)) ∧
  (∀ y z o st J P F ds N n' I L D x d, mR b q I0 L0 D0 none st o J (x :: P) F ds I L D → mG b len st o J (x :: P) F ds (N + 1) → J.length + F.length < n' → ds[x]? = some d → qs_D st.2.length d → d.2.2.1 ≤ st.1 → 1 ≤ y → y ≤ 9 → tpJ y J F → (qs_sv (qt_m b st.1) ≤ z ∨ (qs_sv (qt_m b st.1) = 4 ∧ z ≤ 3)) → (5 ≤ y → 5 ≤ z) → mV b len q I0 L0 D0 R (K_m w b R x1 y) o J P F ds (qs_p b ln n 3 y z o d st) (K_y w b R x1 z N n' I L D st))
section
variable {w : qcW} {I I0 : qTI} {L L0 : qTL} {D D0 : qTD} {R : qTR} {b ln : Nat → Nat} {len q o N n : Nat} {τ : Option (Nat × Nat)} {st : qP} {J : qJs} {P : List Nat} {F : qFs} {ds : List qDen} {x1 x3 : Int32}
theorem bg_t {I' : qTI} {L' : qTL} {D' : qTD} (h15 : I 291 15 = 0) (hg : fX12_begins w I L D R x3 = some (true, I', L', D', R)) (hF : I' 291 34 = I 291 34) : fX12_expression_l27 w (N + 1) (I, L, D, R, x1, 1, x3) = fX12_expression_l27 w N (I', L', D', R, x1, 0, 0) := by
  rw [fX12_expression_l27_s]
  unfold fX12_expression_b27
  rw [if_pos h15, if_neg (show ¬ (1 : Int32) = 0 by decide), hg, qc_bds, hF, if_neg (fun u => Int32.lt_irrefl u), if_pos rfl]
  rfl
theorem bg_f {I' : qTI} {L' : qTL} {D' : qTD} (h15 : I 291 15 = 0) (hg : fX12_begins w I L D R x3 = some (false, I', L', D', R)) (hF : I 291 34 < I' 291 34) : fX12_expression_l27 w (N + 1) (I, L, D, R, x1, 1, x3) = fX12_expression_l27 w N (I', L', D', R, x1, 1, 1) := by
  rw [fX12_expression_l27_s]
  unfold fX12_expression_b27
  rw [if_pos h15, if_neg (show ¬ (1 : Int32) = 0 by decide), hg, qc_bds, if_pos hF]
  rfl
theorem bg_j {I' : qTI} {L' : qTL} {D' : qTD} {st' : qP} {o' : Nat} {j : Nat × Nat × Int32} {J' : qJs} {P' : List Nat} {F' : qFs} {ds' : List qDen} (h15 : I 291 15 = 0) (hg : fX12_begins w I L D R x3 = some (false, I', L', D', R)) (h' : mR b q I0 L0 D0 τ st' o' (j :: J') P' F' ds' I' L' D') (hJ : J'.length < 420) (hF : I' 291 34 = I 291 34) : fX12_expression_l27 w (N + 1) (I, L, D, R, x1, 1, x3) = fX12_expression_l27 w N (I', L', D', R, x1, 1, if j.1 = 3 then 1 else 0) := by
  rw [fX12_expression_l27_s]
  unfold fX12_expression_b27
  obtain ⟨k1, k2, k3⟩ := mR_jt h' hJ
  have e : nI j.1 = 3 ↔ j.1 = 3 := qi_nI_inj' (j := 3) (by omega) (by decide)
  rw [if_pos h15, if_neg (show ¬ (1 : Int32) = 0 by decide), hg, qc_bds, hF, if_neg (fun u => Int32.lt_irrefl u), if_neg (by decide), k1, qc_gdt, k2]
  by_cases z : j.1 = 3
  · rw [if_pos (e.mpr z), if_pos z]; rfl
  · rw [if_neg (fun u => z (e.mp u)), if_neg z]; rfl
theorem lt_F {F' : qFs} {I' : qTI} (h1 : I 291 34 = nI F.length) (h2 : I' 291 34 = nI F'.length) (h : F.length < F'.length) (hF : F'.length < 1000) : I 291 34 < I' 291 34 := by
  rw [h1, h2]
  exact (qi_lt (by omega) (by omega)).mpr h
/-- not -, ~, nor a not that may stand -/
theorem bg_30 (hts : mTs w I L D R (qt_m b st.1)) (h : qt_m b st.1 = 19 → x3 = 0) : fX12_begins w I L D R x3 = fX12_begins_b30 w I L D R := by
  unfold fX12_begins
  rw [mw_19 hts, qc_bds]
  by_cases z : qt_m b st.1 = 19
  · rw [if_pos (decide_eq_true z), if_pos (h z)]
  · rw [if_neg (fun u => z (of_decide_eq_true u))]
theorem bg_31 (hts : mTs w I L D R (qt_m b st.1)) (h : qt_m b st.1 ≠ 49 ∧ qt_m b st.1 ≠ 53) {k : qTI → qTL → qTD → qTR → qcO Bool} (hk : fX12_begins_b30 w I L D R = qc_bd (fX12_is w I L D R 45) fun r9 I9 L9 D9 R9 => if r9 = true then (fX12_begins_b48 w I9 L9 D9 R9) else (qc_bd (fX12_is w I9 L9 D9 R9 (126 : Int32)) fun r11 I11 L11 D11 R11 => if r11 = true then (fX12_begins_b48 w I11 L11 D11 R11) else k I11 L11 D11 R11)) : fX12_begins_b30 w I L D R = k I L D R := by
  rw [hk, ms_49 hts, qc_bds, if_neg (fun u => h.1 (of_decide_eq_true u)), ms_53 hts, qc_bds, if_neg (fun u => h.2 (of_decide_eq_true u))]
/-- joints that are joined by a sign ahead -/
theorem un_sz (k kc : Nat) (t : List (Nat × Nat)) (x : qDen) : (d_un k kc t x).2.2.1 = x.2.2.1 + 1 := rfl
/-- tag 4 -/
theorem mA_signed (hb : qt_B b len) (hS : mS b ln len q I0) (hln : ∀ c, c < 10 → ln c ≤ 8) (hA : mA w b ln len q I0 L0 D0 R x1 n) (h : mR b q I0 L0 D0 none st o J P F ds I L D) (hG : mG b len st o J P F ds N) (h19 : qt_m b st.1 = 19 → x3 = 0) (hF0 : ∃ f F', F = f :: F' ∧ f.2.1 ≤ J.length) : mV b len q I0 L0 D0 R (K_o w R x1) o J P F ds (qs_p b ln (n + 1) 4 0 0 o (d_lf 0 []) st) (fX12_expression_l27 w N (I, L, D, R, x1, 1, x3)) := by
  obtain ⟨g1, g2, g3, g4, g5, g6⟩ := mG_le hb hG
  have hts := mr_ts (w := w) (R := R) hb hS h (mG_st hG)
  show mV b len q I0 L0 D0 R (K_o w R x1) o J P F ds (qs_signed b (qs_p b ln n) o st) _
  unfold qs_signed
  by_cases z : qt_m b st.1 = 49 ∨ qt_m b st.1 = 53
  · rw [if_pos z]
    have hq0 : qt_m b st.1 ≠ 0 := by omega
    obtain ⟨N, rfl⟩ : ∃ k, N = k + 2 := ⟨N - 2, by omega⟩
    -- the sign is taken
    obtain ⟨I1, a1, a2, a3⟩ := mr_opens (w := w) (R := R) h hG.2.1
    have c1200 : ∃ p, (p = 1200 ∨ p = 1300) ∧ p = (if qt_m b st.1 = 49 then 1200 else 1300) := ⟨_, by split <;> omega, rfl⟩
    obtain ⟨p, hp, hp2⟩ := c1200
    have ebeg : fX12_begins w I L D R x3 = qc_bd (fX12_opens w I L D R) fun r3 I3 L3 D3 R3 => qc_bd (fX12_is w I3 L3 D3 R3 (45 : Int32)) fun r4 I4 L4 D4 R4 => if r4 = true then (fX12_begins_b73 w I4 L4 D4 R4 (1200 : Int32) (9 : Int32)) else (fX12_begins_b73 w I4 L4 D4 R4 (1300 : Int32) (9 : Int32)) := by
      rw [bg_30 (b := b) (st := st) hts (fun u => by omega)]
      unfold fX12_begins_b30 fX12_begins_b48
      rw [ms_49 hts, qc_bds]
      rcases z with z | z
      · rw [if_pos (decide_eq_true z)]
      · rw [if_neg (fun u => by have := of_decide_eq_true u; omega), ms_53 hts, qc_bds, if_pos (decide_eq_true z)]
    rw [a1] at ebeg
    rw [qc_bds] at ebeg
    cases ho : qs_op1 b o st with
    | inl e =>
      -- too many are open
      have m1 := a3 e ho
      obtain ⟨I2, j1, j2⟩ := mr_joint (w := w) (R := R) m1 (s := 9) (p := 1300) (by decide) (by omega)
      have hts1 := mr_tsE (w := w) (R := R) m1
      have eb : fX12_begins w I L D R x3 = some (false, I2, L, D, R) := by
        rw [ebeg, ms_49 hts1, qc_bds, if_neg (by decide)]
        unfold fX12_begins_b73
        have j1 : fX12_joint w I1 L D R 9 1300 = some ((), I2, L, D, R) := j1
        rw [j1, qc_bds, mr_nextE j2, qc_bds]
      rw [bg_j (mR_15 h) eb j2 (by omega) (j2.2.2.2.2.2.1.1.trans h.2.2.2.2.2.1.1.symm)]
      exact mV_e j2 (mE_27 j2 _ _)
    | inr st' =>
      obtain ⟨rfl, m1⟩ := a2 st' ho
      have ho12 := (qs_op1_of ho).2
      have hts1 := mr_ts (w := w) (R := R) hb hS m1 (mG_st hG)
      obtain ⟨I2, j1, j2⟩ := mr_joint (w := w) (R := R) m1 (s := 9) (p := p) (by decide) (by omega)
      rw [mR_10 m1] at j2
      obtain ⟨I3, L3, D3, k1, k2, k3⟩ := mr_next (w := w) (R := R) hb hS j2 (mG_st hG)
      have eb : fX12_begins w I L D R x3 = some (false, I3, L3, D3, R) := by
        have e73 : fX12_begins_b73 w I1 L D R (nI p) 9 = some (false, I3, L3, D3, R) := by
          unfold fX12_begins_b73
          have j1 : fX12_joint w I1 L D R 9 (nI p) = some ((), I2, L, D, R) := j1
          rw [j1, qc_bds, k1, qc_bds]
        rw [ebeg, ms_49 hts1, qc_bds]
        by_cases y : qt_m b st'.1 = 49
        · rw [if_pos (decide_eq_true y)]
          rw [hp2, if_pos y] at e73
          exact e73
        · rw [if_neg (fun u => y (of_decide_eq_true u))]
          rw [hp2, if_neg y] at e73
          exact e73
      show mV b len q I0 L0 D0 R (K_o w R x1) o J P F ds (qs_b (qs_adv b st') _) _
      cases ha : qs_adv b st' with
      | inl e =>
        have m3 := k3 e ha
        rw [bg_j (mR_15 h) eb m3 (by omega) (m3.2.2.2.2.2.1.1.trans h.2.2.2.2.2.1.1.symm)]
        exact mV_e m3 (mE_27 m3 _ _)
      | inr st2 =>
        have m3 := k2 st2 ha
        obtain ⟨q1, q2, q3⟩ := qs_G_adv hb hG.1 hq0 ha
        rw [bg_j (mR_15 h) eb m3 (by omega) (m3.2.2.2.2.2.1.1.trans h.2.2.2.2.2.1.1.symm), if_neg (show ¬ 9 = 3 by decide)]
        have hG2 : mG b len st2 (o + 1) ((9, p, nI (qt_from b st'.1)) :: J) P F ds (N + 1) := by
          obtain ⟨e1, e2, e3, e4, e5, e6, e7⟩ := hG
          exact ⟨q1, by omega, by rw [List.length_cons]; omega, by omega, by omega, e6, by omega⟩
        obtain ⟨f, F', hf1, hf2⟩ := hF0
        have hv := hA.2.2.1 (o + 1) st2 _ P F ds (N + 1) I3 L3 D3 0 m3 hG2 (fun _ => rfl) ⟨f, F', hf1, by rw [List.length_cons]; omega⟩
        refine mV_b hv (fun s N' n' x t I4 L4 D4 hr m4 hx hG4 hn4 => ?_)
        have hQ := (qs_good hb hln n 4 0 0 (o + 1) _ st2 s hr q1).1 (by decide) (by decide) ⟨fun u => (by omega), fun u => (by omega)⟩
        obtain ⟨w1, w2, w3, w4, w5, w6⟩ := mG_le hb hG4
        obtain ⟨d1, d2, d3, d4⟩ := hQ
        rw [List.length_cons] at hn4 w4
        have hts4 := mr_ts (w := w) (R := R) hb hS m4 (mG_st hG4)
        have hsz : s.1.2.2.1 + 1 ≤ 400 := by omega
        -- the fit of the spec
        have hokT : (if qt_m b st'.1 = 49 then !(Nat.beq s.1.1 0) else qs_wh s.1.1) = true → qs_D s.2.2.length (d_un s.1.1 s.1.1 [((if qt_m b st'.1 = 49 then 1200 else 1300) + s.1.1, 0)] s.1) := fun u => by
          by_cases y : qt_m b st'.1 = 49
          · rw [if_pos y] at u ⊢
            have hk0 : s.1.1 ≠ 0 := fun v => by rw [v] at u; cases u
            exact D_un d2 d2.1 (Or.inr rfl) (T_neg (by omega) d2.1) (show 1 ≤ 3 by decide)
          · rw [if_neg y] at u ⊢
            have hk0 : s.1.1 = 1 ∨ s.1.1 = 2 := by
              rcases Bool.or_eq_true_iff.mp u with v | v
              · exact Or.inl (qs_beq.mp v)
              · exact Or.inr (qs_beq.mp v)
            exact D_un d2 d2.1 (Or.inr rfl) (T_turn (by omega) (by omega)) (show 1 ≤ 3 by decide)
        have hokE : (if (9 : Nat) = 9 then (if p = 1200 then !(Nat.beq s.1.1 0) else qs_wh s.1.1) else Nat.beq s.1.1 0) = (if qt_m b st'.1 = 49 then !(Nat.beq s.1.1 0) else qs_wh s.1.1) := by
          rw [if_pos rfl, hp2]
          by_cases y : qt_m b st'.1 = 49
          · rw [if_pos y, if_pos y, if_pos rfl]
          · rw [if_neg y, if_neg y, if_neg (by decide)]
        obtain ⟨I5, j5, j6, j7⟩ := mr_joinU (w := w) (R := R) (k := 9) (p := p) (nr := s.2.2.length) (Or.inl ⟨rfl, hp⟩) m4 hx (by omega) (by omega) (by omega) (ok := if qt_m b st'.1 = 49 then !(Nat.beq s.1.1 0) else qs_wh s.1.1) (d := d_un s.1.1 s.1.1 [((if qt_m b st'.1 = 49 then 1200 else 1300) + s.1.1, 0)] s.1) hokE.symm (by rw [if_pos rfl, hp2]) (fun u => ⟨hokT u, by rw [un_sz]; omega⟩)
        have hm4 := qt_m_lt b s.2.1
        have hm63 := (mG_st hG4).2
        obtain ⟨n', rfl⟩ : ∃ k, n' = k + 1 := ⟨n' - 1, by omega⟩
        have sv8 := sv_le (qt_m b s.2.1)
        have tg : ∀ s', s' ≤ 9 → tpG s' ((9, p, nI (qt_from b st'.1)) :: J) F := fun s' hs' => ⟨f, F', _, J, hf1, rfl, hf2, hs'⟩
        show mV b len q I0 L0 D0 R (K_o w R x1) o J P F ds (qs_fit _ _ _) (mOu w (fX12_expression_l27 w N') (n' + 1) I4 L4 D4 R x1)
        unfold qs_fit
        cases hok : (if qt_m b st'.1 = 49 then !(Nat.beq s.1.1 0) else qs_wh s.1.1) with
        | true =>
          rw [if_pos rfl]
          have m5 := j6 hok
          have hts5 := mr_ts (w := w) (R := R) hb hS m5 (mG_st hG4)
          have er := (mo_red (n := n') (x1 := x1) (k27 := fX12_expression_l27 w N') m4 hts4 (by omega) (by rw [List.length_cons]; omega) (by omega) j5 m5 rfl rfl (by omega) (tg _ (by omega)) (fun _ => tg 5 (by decide)) (fun _ => hts5)).1 rfl
          rw [er]
          refine mV_s (t := t ++ [d_un s.1.1 s.1.1 [((if qt_m b st'.1 = 49 then 1200 else 1300) + s.1.1, 0)] s.1]) (x := (ds ++ t).length) ?_ ?_ ?_ (n := n') (N := N') ?_ rfl
          · rw [← List.append_assoc]; exact m5
          · rw [← List.append_assoc, List.getElem?_append_right (Nat.le_refl _), Nat.sub_self]; rfl
          · obtain ⟨e1, e2, e3, e4, e5, e6, e7⟩ := hG4
            rw [List.length_cons] at e3 e4
            exact ⟨e1, by omega, by simp only [List.length_append, List.length_cons, List.length_nil] at e3 ⊢; omega, by rw [List.length_cons]; omega, by obtain ⟨y1, y2, y3, y4, y5, y6, y7⟩ := hG; omega, e6, by omega⟩
          · omega
        | false =>
          rw [if_neg (by decide)]
          have m5 := j7 hok
          obtain ⟨N', rfl⟩ : ∃ k, N' = k + 1 := ⟨N' - 1, by omega⟩
          have er := (mo_red (n := n') (x1 := x1) (k27 := fX12_expression_l27 w (N' + 1)) m4 hts4 (by omega) (by rw [List.length_cons]; omega) (by omega) j5 m5 rfl rfl (by omega) (tg _ (by omega)) (fun _ => tg 5 (by decide)) (fun u => by cases u)).2 _ rfl N' rfl (by omega)
          exact mV_e m5 er
  · rw [if_neg z]
    exact hA.2.2.2.1 o st J P F ds N I L D x3 h hG h19 (by omega)
end
