/-! the class reads as the spec does: what is joined -/
theorem qs_bb {α β γ : Type} (r : qR α) (f : α → qR β) (g : β → qR γ) : qs_b (qs_b r f) g = qs_b r (fun x => qs_b (f x) g) := by cases r <;> rfl
theorem qs_bfit {α β : Type} (ok : Bool) (j : Nat) (r : qR α) (g : α → qR β) : qs_b (qs_fit ok j r) g = qs_fit ok j (qs_b r g) := by
  unfold qs_fit
  split <;> rfl
theorem jt_lo : ∀ s, s < 9 → ∀ x, x < 10 → 1 ≤ x → (nI s - 1 < nI (x - 1) ↔ s < x) := by decide
theorem jt_hi : ∀ s, s < 9 → ∀ y, y < 9 → 1 ≤ y → (nI (y - 1) < nI s - 1 ↔ y < s) := by decide
theorem jt_3 : ∀ s, s < 9 → (nI s - 1 = 3 ↔ s = 4) ∧ ((1 : Int32) < nI s - 1 ↔ 3 ≤ s) := by decide
section
variable {w : qcW} {b ln : Nat → Nat} {len : Nat} {I I1 : qTI} {L : qTL} {D D1 : qTD} {R R1 : qTR} {c nc o h pk n : Nat} {l : List (Nat × Nat)} {st st1 : qP} {q : qDen × qP} {e : Nat × Nat}
theorem cx_isJ {m x y : Nat} (hm : m < 62) (h1 : R 268 1 = m) (hx : 1 ≤ x ∧ x < 10) (hy : 1 ≤ y ∧ y < 9) : fX2_isJoint w I L D R (nI (x - 1)) (nI (y - 1)) = some (decide (x ≤ qs_sv m ∧ qs_sv m ≤ y), I, L, D, R) := by
  have hs : qs_sv m < 9 := by have := qs_sv_c m; omega
  unfold fX2_isJoint
  rw [h1, show qc_l62 m = true from Nat.ble_eq.mpr hm, qc_gdt, qc_mf_lv m hm, qc_gdt]
  by_cases z : qs_sv m < x
  · rw [if_pos ((jt_lo _ hs _ hx.2 hx.1).mpr z), decide_eq_false (fun y => by omega)]
  rw [if_neg (fun y => z ((jt_lo _ hs _ hx.2 hx.1).mp y))]
  by_cases z2 : y < qs_sv m
  · rw [if_pos ((jt_hi _ hs _ hy.2 hy.1).mpr z2), decide_eq_false (fun y => by omega)]
  rw [if_neg (fun y => z2 ((jt_hi _ hs _ hy.2 hy.1).mp y)), decide_eq_true (by omega)]
theorem cx_fits0 {m : Nat} (hm : m < 62) (x1 x2 : Int32) : ∃ r, fX2_fits w I L D R m x1 x2 = some (r, I, L, D, R) := by
  have hl : qc_l62 m = true := Nat.ble_eq.mpr hm
  have h125 : ∀ a e, ∃ r, fX2_fits_b125 w I L D R a e = some (r, I, L, D, R) := fun a e => by
    unfold fX2_fits_b125
    split
    · exact ⟨_, rfl⟩
    · split <;> exact ⟨_, rfl⟩
  have h115 : ∀ a e f g, ∃ r, fX2_fits_b115 w I L D R a e f g = some (r, I, L, D, R) := fun a e f g => by
    unfold fX2_fits_b115
    split
    · exact h125 _ _
    · split
      · exact h125 _ _
      · exact ⟨_, rfl⟩
  have h96 : ∀ a e f, ∃ r, fX2_fits_b96 w I L D R m a e f = some (r, I, L, D, R) := fun a e f => by
    unfold fX2_fits_b96 fX2_fits_b110
    rw [hl, qc_gdt]
    split
    · exact h115 _ _ _ _
    · split <;> exact h115 _ _ _ _
  have h33 : ∀ a e f g, qc_01 f = true → qc_01 g = true → ∃ r, fX2_fits_b33 w I L D R m a e f g = some (r, I, L, D, R) := fun a e f g hf hg => by
    unfold fX2_fits_b33
    rw [hl, qc_gdt, hf, hg, qc_gdt, qc_gdt]
    split
    · exact ⟨_, rfl⟩
    · split
      · exact ⟨_, rfl⟩
      · split
        · exact h96 _ _ _
        · split
          · exact h96 _ _ _
          · split
            · split
              · split <;> exact ⟨_, rfl⟩
              · exact ⟨_, rfl⟩
            · split
              · exact ⟨_, rfl⟩
              · exact h96 _ _ _
  have hw : ∀ a, ∃ r, fX2_isWhole w I L D R a = some (r, I, L, D, R) := fun a => by
    unfold fX2_isWhole
    split
    · exact ⟨_, rfl⟩
    · split <;> exact ⟨_, rfl⟩
  have h13 : ∀ a e f, qc_01 f = true → ∃ r, fX2_fits_b13 w I L D R m a e f = some (r, I, L, D, R) := fun a e f hf => by
    unfold fX2_fits_b13 fX2_fits_b32
    obtain ⟨r, hr⟩ := hw a
    rw [hl, qc_gdt, hr, qc_bds]
    split
    · obtain ⟨r, hr⟩ := hw e
      rw [hr, qc_bds]
      split
      · exact h33 _ _ _ _ hf (by decide)
      · rw [qc_gdt]; exact h33 _ _ _ _ hf (by decide)
    · rw [qc_gdt]; exact h33 _ _ _ _ hf (by decide)
  unfold fX2_fits fX2_fits_b12
  rw [hl, qc_gdt, qc_gdt]
  split
  · split <;> exact h13 _ _ _ (by decide)
  · exact h13 _ _ _ (by decide)
theorem eU_fits (hs : eS c e n I R) {m : Nat} (hm : m < 62) (x1 x2 : Int32) : eU c e n 0 I L D R (fX2_fits w I L D R m x1 x2) := by
  obtain ⟨r, hr⟩ := cx_fits0 (w := w) (I := I) (L := L) (D := D) (R := R) hm x1 x2
  rw [hr]
  exact eU_some hs r
theorem eU_jt (hW : qc_WF w) (hc : c = 270 ∨ c = 273 ∨ c = 276) (hs : eS c e n I R) (hn : n < 4900) {m j : Nat} (hm : m < 62) (hj : j ≤ n) : eU c e n 2 I L D R (fX2_joinTruths w I L D R m (nI j)) := by
  unfold fX2_joinTruths fX2_joinTruths_b43
  rw [show qc_l62 m = true from Nat.ble_eq.mpr hm, qc_gdt, hs.2.1, qc_WF_i hW hc, qc_gdt]
  obtain ⟨I1, e1, f1, s1⟩ := eU_addJump (w := w) (L := L) (D := D) hW hc hs (by omega) 1802
  rw [e1, qc_bds]
  have : eU c e (n + 1) 1 I1 L D R (qc_gd (qc_io w (R 267 4) 0) <| qc_bd (fX0_aim w I1 L D R (R 267 4) (nI j)) fun r9 I9 L9 D9 R9 => qc_gd (qc_io w (R9 267 4) 0) <| qc_bd (fX0_otherWay w I9 L9 D9 R9 (R9 267 4)) fun r11 I11 L11 D11 R11 => qc_gd (qc_io w (R11 267 4) 0) <| if m = 20 then (qc_gd (qc_io w (R11 267 4) 0) <| (qc_bd (fX0_add w I11 L11 D11 R11 (R11 267 4) 1 1) fun r2 I2 L2 D2 R2 => qc_gd (qc_io w (R2 267 4) 0) <| qc_bd (fX0_aim w I2 L2 D2 R2 (R2 267 4) (nI n)) fun r4 I4 L4 D4 R4 => some ((0 : Int32), I4, L4, D4, R4))) else (qc_gd (qc_io w (R11 267 4) 0) <| (qc_bd (fX0_add w I11 L11 D11 R11 (R11 267 4) 1 0) fun r2 I2 L2 D2 R2 => qc_gd (qc_io w (R2 267 4) 0) <| qc_bd (fX0_aim w I2 L2 D2 R2 (R2 267 4) (nI n)) fun r4 I4 L4 D4 R4 => some ((0 : Int32), I4, L4, D4, R4)))) := by
    rw [s1.2.1, qc_WF_i hW hc, qc_gdt]
    refine eU_bd (k := 0) (k2 := 1) (eU_aim hW hc s1 (by omega)) (fun r I D R n2 hs h1 h2 => ?_)
    rw [hs.2.1, qc_WF_i hW hc, qc_gdt]
    refine eU_bd (k := 0) (k2 := 1) (eU_otherWay hW hc hs) (fun r I D R n2 hs h1 h2 => ?_)
    rw [hs.2.1, qc_WF_i hW hc, qc_gdt, qc_gdt, qc_gdt]
    have ht : ∀ v, eU c e n2 1 I L D R (qc_bd (fX0_add w I L D R c 1 v) fun r2 I2 L2 D2 R2 => qc_gd (qc_io w (R2 267 4) 0) <| qc_bd (fX0_aim w I2 L2 D2 R2 (R2 267 4) (nI n)) fun r4 I4 L4 D4 R4 => some ((0 : Int32), I4, L4, D4, R4)) := fun v => by
      refine eU_bd (k := 1) (k2 := 0) (eU_add hW hc hs (by omega) _ _) (fun r I D R n2 hs h1 h2 => ?_)
      rw [hs.2.1, qc_WF_i hW hc, qc_gdt]
      exact eU_bd (k := 0) (k2 := 0) (eU_aim hW hc hs (by omega)) (fun r I D R n2 hs h1 h2 => eU_some hs _)
    split
    · exact ht 1
    · exact ht 0
  obtain ⟨r, I2, D2, R2, n2, e2, f2, s2, h3, h4⟩ := this
  exact ⟨r, I2, D2, R2, n2, e2, fX_tr (fX_C f1 D R) f2, s2, by omega, by omega⟩
theorem eU_jv (hW : qc_WF w) (hc : c = 270 ∨ c = 273 ∨ c = 276) (hs : eS c e n I R) (hn : n < 4900) {m j : Nat} (hm : m < 62) (hj : j ≤ n) (x3 x4 : Int32) : eU c e n 4 I L D R (fX2_joinValues w I L D R m (nI j) x3 x4) := by
  unfold fX2_joinValues
  rw [show qc_l62 m = true from Nat.ble_eq.mpr hm, qc_gdt, hs.2.1, qc_WF_i hW hc, qc_gdt]
  split
  · refine eU_mono (eU_bd (k := 1) (k2 := 1) (eU_convert hW hc hs (by omega) _ _) (fun r I D R n2 hs h1 h2 => ?_)) (by decide)
    rw [hs.2.1, qc_WF_i hW hc, qc_gdt]
    exact eU_bd (k := 1) (k2 := 0) (eU_add hW hc hs (by omega) _ _) (fun r I D R n2 hs h1 h2 => eU_some hs _)
  · refine eU_bd (k := 0) (k2 := 4) (eU_max hs _ _) (fun r I D R n2 hs h1 h2 => ?_)
    rw [hs.2.1, qc_WF_i hW hc, qc_gdt]
    refine eU_bd (k := 1) (k2 := 3) (eU_convert hW hc hs (by omega) _ _) (fun r I D R n2 hs h1 h2 => ?_)
    rw [hs.2.1, qc_WF_i hW hc, qc_gdt]
    refine eU_bd (k := 1) (k2 := 2) (eU_convertAt hW hc hs (by omega) (by omega) _ _) (fun r I D R n2 hs h1 h2 => ?_)
    refine eU_bd (k := 0) (k2 := 2) (eU_max hs _ _) (fun r I D R n2 hs h1 h2 => ?_)
    rw [hs.2.1, qc_WF_i hW hc, qc_gdt, qc_gdt]
    split
    · refine eU_bd (k := 1) (k2 := 1) (eU_add hW hc hs (by omega) _ _) (fun r I D R n2 hs h1 h2 => ?_)
      rw [hs.2.1, qc_WF_i hW hc, qc_gdt]
      exact eU_bd (k := 1) (k2 := 0) (eU_add hW hc hs (by omega) _ _) (fun r I D R n2 hs h1 h2 => eU_some hs _)
    · exact eU_mono (eU_bd (k := 1) (k2 := 0) (eU_add hW hc hs (by omega) _ _) (fun r I D R n2 hs h1 h2 => eU_some hs _)) (by decide)
/-- tag 2 -/
theorem cA_joined (hW : qc_WF w) (hc : c = 270 ∨ c = 273 ∨ c = 276) (hb : qt_B b len) (hln : ∀ c, c < 10 → ln c ≤ 8) (hA : cA w b ln len c n) (hB : cB b ln len c nc o st l h pk I D R) {x : Nat} (hx1 : 1 ≤ x) (hx9 : x ≤ 9) (hn : 14 * (13 - o) + 5 ≤ nc + x) : cV b c L o l h pk (2500 + 8 * nc) (qs_p b ln (n + 1) 2 x 0 o (d_lf 0 []) st) I D R (fX2_rc w nc 2 (nI (x - 1)) I L D R) := by
  have ho := hB.2.2.2.1
  obtain ⟨nc, rfl⟩ : ∃ k, nc = k + 1 := ⟨nc - 1, by omega⟩
  have hn2 := hB.2.2.2.2.2.2.2.2
  have hbl := cB_l hB hb
  have hD0 := hB.2.1
  have hF : qcF = 4095 + 1 := rfl
  show cV b c L o l h pk _ (qs_joined b (qs_p b ln n) x o st) I D R (fX2_joined w (fX2_rc w nc) I L D R (nI (x - 1)))
  unfold qs_joined fX2_joined
  rw [cD_l hB.2.1 hB.2.2.1, qc_gdt, cD_mk hB.2.1]
  have h0x : (0 : Int32) ≤ nI (x - 1) := (qi_le (a := 0) (by decide) (by omega)).mpr (by omega)
  have tl : ∀ (y k : Int32) e n' I1 D1 R1, eS c e n' I1 R1 → eU c e n' 0 I1 L D1 R1 (fX2_joined_b36 w (fX2_rc w nc) I1 L D1 R1 (nI (x - 1)) y k) := fun y k e n' I1 D1 R1 hs => by
    unfold fX2_joined_b36
    rw [hF, eR_loop hs h0x]
    exact eU_some hs _
  have hloop : ∀ (y : Nat) (q : qDen × qP) I1 D1 R1, 1 ≤ y → y ≤ 8 → cB b ln len c nc o q.2 (l ++ qs_sh l.length q.1.2.2.2) (h + 1) (max pk (h + q.1.2.1)) I1 D1 R1 → qs_D q.2.2.length q.1 → cV b c L o l h pk (2500 + 8 * (nc + 1)) (qs_p b ln n 3 x y o q.1 q.2) I1 D1 R1 (fX2_joined_b36 w (fX2_rc w nc) I1 L D1 R1 (nI (x - 1)) (nI (y - 1)) (nI q.1.1)) := fun y q I1 D1 R1 hy1 hy8 hB1 hd => by
    unfold fX2_joined_b36
    exact hA.loop qcF 0 x y nc o q.1 q.2 l h pk I1 L D1 R1 hB1 hd hx1 hx9 hy1 hy8 (Nat.zero_le _) (by rw [hF]; omega) (by omega)
  have h31 : cV b c L o l h pk (2500 + 8 * (nc + 1)) (qs_b (qs_p b ln n 4 0 0 o (d_lf 0 []) st) fun q => qs_p b ln n 3 x 8 o q.1 q.2) I D R (fX2_joined_b31 w (fX2_rc w nc) I L D R (nI (x - 1)) 7) := by
    unfold fX2_joined_b31
    have hv := hA.signed nc o st l h pk I L D R (cB_m hB (by omega)) (by omega)
    refine cV_bV (K := 0) hv (fun q I1 D1 R1 hr hf hD => ?_) (fun e k n' I1 D1 R1 hs h1 h2 => tl _ _ e n' I1 D1 R1 hs) (Nat.le_refl _) (by omega)
    have hq := ((qs_good hb hln n 4 0 0 o _ st q hr hB.2.2.1).1 (by decide) (by decide) ⟨fun z => by omega, fun z => by omega⟩)
    exact hloop 8 q I1 D1 R1 (by decide) (by decide) (cB_q hc hB hf hD hq (nc' := nc) (by omega)) hq.2.1
  by_cases hx3 : x ≤ 3
  · rw [if_neg (show ¬ (2 : Int32) < nI (x - 1) from fun y => by have := (qi_lt (a := 2) (by decide) (by omega)).mp y; omega)]
    by_cases h19 : qt_m b st.1 = 19
    · rw [if_pos h19, if_pos ⟨hx3, h19⟩]
      have hden := cA_den (L := L) hW hc hb hln hA (cB_m hB (nc' := nc) (by omega)) h19 (by omega)
      have heq : (qs_b (qs_op1 b o st) fun st1 => qs_b (qs_adv b st1) fun st2 => qs_b (qs_p b ln n 2 3 0 (o + 1) (d_lf 0 []) st2) fun q => qs_fit (Nat.beq q.1.1 0) (qt_from b st.1) <| qs_p b ln n 3 x 2 o (d_un 0 q.1.1 [(1810, 0)] q.1) q.2)
          = qs_b (qs_b (qs_op1 b o st) fun st1 => qs_b (qs_adv b st1) fun st2 => qs_b (qs_p b ln n 2 3 0 (o + 1) (d_lf 0 []) st2) fun q => qs_fit (Nat.beq q.1.1 0) (qt_from b st.1) <| .inr (d_un 0 q.1.1 [(1810, 0)] q.1, q.2)) fun q => qs_p b ln n 3 x 2 o q.1 q.2 := by
        rw [qs_bb]
        congr 1
        funext st1
        rw [qs_bb]
        congr 1
        funext st2
        rw [qs_bb]
        congr 1
        funext q
        rw [qs_bfit]
        rfl
      rw [heq]
      refine cV_bV (K := 0) hden (fun q I1 D1 R1 hr hf hD => ?_) (fun e k n' I1 D1 R1 hs h1 h2 => tl _ _ e n' I1 D1 R1 hs) (Nat.le_refl _) (by omega)
      have hq : qs_Q b len 0 st q := by
        obtain ⟨ho2, hr⟩ := qs_bop hr
        obtain ⟨st2, hr2, hr⟩ := qs_b_of hr
        obtain ⟨q1, hr3, hr⟩ := qs_b_of hr
        obtain ⟨hok, hr⟩ := qs_fit_of hr
        cases hr
        obtain ⟨g1, g2, g3⟩ := qs_G_adv hb hB.2.2.1 (by omega) hr2
        obtain ⟨a1, a2, a3, a4⟩ := ((qs_good hb hln n 2 3 0 (o + 1) _ st2 q1 hr3 g1).1 (by decide) (by decide) ⟨fun _ => by decide, fun z => by omega⟩)
        have z : q1.1.1 = 0 := Nat.eq_of_beq_eq_true hok
        refine ⟨a1, ?_, by rw [← g3]; exact a3, ?_⟩
        · show qs_D q1.2.2.length (d_un 0 q1.1.1 [(1810, 0)] q1.1)
          rw [z]
          exact D_un a2 (by decide) (Or.inr z) T_not (by decide)
        · show st.1 + (q1.1.2.2.1 + 1) ≤ q1.2.1 + 0
          omega
      exact hloop 2 q I1 D1 R1 (by decide) (by decide) (cB_q hc hB hf hD hq (nc' := nc) (by omega)) hq.2.1
    · rw [if_neg h19, if_neg (fun y => h19 y.2)]
      exact h31
  · rw [if_pos (show (2 : Int32) < nI (x - 1) from (qi_lt (a := 2) (by decide) (by omega)).mpr (by omega)), if_neg (fun y => hx3 y.1)]
    exact h31
end
