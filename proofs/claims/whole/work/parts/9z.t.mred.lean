/-! the reference's sums are the spec's -/
section
variable {w : qcW} {I I0 : qTI} {L L0 : qTL} {D D0 : qTD} {R : qTR} {b ln : Nat → Nat} {len q o N n : Nat} {τ : Option (Nat × Nat)} {st : qP} {J : qJs} {P : List Nat} {F : qFs} {ds : List qDen} {x1 x3 : Int32} {f : Nat × Nat × Int32 × Nat × Int32}
/-- all joints are joined -/
theorem K_m1 (hb : qt_B b len) (hS : mS b ln len q I0) {n' : Nat} (h : mR b q I0 L0 D0 none st o J P F ds I L D) (hG : st.1 ≤ len ∧ qt_m b st.1 ≠ 63) (hen : qs_en b 1 st) (hF : F.length ≤ 40) (hJ : J.length ≤ 420) (hF0 : ∃ f F', F = f :: F' ∧ f.2.1 = J.length) : K_m w b R x1 1 N (n' + 1) I L D st = if qt_m b st.1 = 59 ∧ (1 < F.length ∨ x1 ≠ 0) then fX12_expression_b250 w (fX12_expression_l27 w N) I L D R x1 else fX12_expression_b306 w (fX12_expression_l27 w N) I L D R x1 := by
  have hts := mr_ts (w := w) (R := R) hb hS h hG
  have e : K_m w b R x1 1 N (n' + 1) I L D st = mMd w (fX12_expression_l27 w N) (n' + 1) I L D R x1 := by
    unfold K_m
    by_cases z : qs_sv (qt_m b st.1) = 4
    · rw [if_pos ⟨by decide, z⟩]
    · rw [if_neg (fun u => z u.2)]
      refine mo_mid h hts ?_
      rcases hen with u | u
      · omega
      · exact absurd u.1 z
  obtain ⟨f, F', h1, h2⟩ := hF0
  rw [e, mm_fin hb hS h hG hF hJ ⟨f, F', h1, Or.inl h2⟩]
/-- tag 0 -/
theorem mA_sum (hb : qt_B b len) (hS : mS b ln len q I0) (hln : ∀ c, c < 10 → ln c ≤ 8) (hA : mA w b ln len q I0 L0 D0 R x1 n) (h : mR b q I0 L0 D0 none st o J P F ds I L D) (hG : mG b len st o J P F ds N) (hF0 : ∃ f F', F = f :: F' ∧ f.2.1 = J.length) (hx : 1 < F.length ∨ x1 ≠ 0) : mV b len q I0 L0 D0 R (K_e w R x1) o J P F ds (qs_p b ln (n + 1) 0 0 0 o (d_lf 0 []) st) (fX12_expression_l27 w N (I, L, D, R, x1, 1, 1)) := by
  change mV b len q I0 L0 D0 R (K_e w R x1) o J P F ds (qs_sum b (qs_p b ln n) o st) _
  unfold qs_sum
  have hF1 := hF0
  obtain ⟨f, F', hF, hf⟩ := hF0
  have hv := hA.2.1 1 o st J P F ds N I L D h hG (by decide) (by decide) ⟨f, F', hF, Or.inl hf⟩
  rw [if_pos (show 1 ≤ 3 by decide)] at hv
  refine mV_b hv (fun s N2 n2 y2 t I4 L4 D4 hr m4 hy4 hG4 hn4 => ?_)
  obtain ⟨d1, d2, d3, d4⟩ := (qs_good hb hln n 2 1 0 o _ st s hr hG.1).1 (by decide) (by decide) ⟨fun _ => (by omega), fun u => (by omega)⟩
  have hen := (qs_ended b ln n).1 _ _ _ _ _ hr
  obtain ⟨w1, w2, w3, w4, w5, w6⟩ := mG_le hb hG4
  obtain ⟨n2, rfl⟩ : ∃ k, n2 = k + 1 := ⟨n2 - 1, by omega⟩
  rw [K_m1 hb hS m4 (mG_st hG4) hen (by omega) (by omega) hF1]
  by_cases z : qt_m b s.2.1 = 59
  · rw [if_pos z, if_pos ⟨z, hx⟩]
    exact mV_ds (hA.2.2.2.2.2.2.1 o s.2 J P F (ds ++ t) N2 I4 L4 D4 y2 s.1 m4 hG4 hy4 d2 (by omega) hF1 z)
  · rw [if_neg z, if_neg (fun u => z u.1)]
    exact mV_s (n := qcF) (N := N2) m4 hy4 hG4 (by unfold qcF; omega) rfl
theorem mV_9 {K : qKc} {j : Nat} {out : qcO Int32} : mV b len q I0 L0 D0 R K o J P F ds (.inl (9, j)) out := fun h9 => absurd rfl (h9 j)
theorem mA_all (hb : qt_B b len) (hS : mS b ln len q I0) (hln : ∀ c, c < 10 → ln c ≤ 8) : ∀ n, mA w b ln len q I0 L0 D0 R x1 n
  | 0 => ⟨fun _ _ _ _ _ _ _ _ _ _ _ _ _ _ => mV_9, fun _ _ _ _ _ _ _ _ _ _ _ _ _ _ _ _ => mV_9, fun _ _ _ _ _ _ _ _ _ _ _ _ _ _ _ => mV_9, fun _ _ _ _ _ _ _ _ _ _ _ _ _ _ _ => mV_9, fun _ _ _ _ _ _ _ _ _ _ _ _ _ _ => mV_9, fun _ _ _ _ _ _ _ _ _ _ _ _ _ _ _ => mV_9, fun _ _ _ _ _ _ _ _ _ _ _ _ _ _ _ _ _ _ _ => mV_9, fun _ _ _ _ _ _ _ _ _ _ _ _ _ _ _ _ _ _ _ _ _ _ _ _ _ _ => mV_9⟩
  | n + 1 => by
    have hA := mA_all hb hS hln n
    exact ⟨fun _ _ _ _ _ _ _ _ _ _ h hG hF hx => mA_sum hb hS hln hA h hG hF hx, fun _ _ _ _ _ _ _ _ _ _ _ h hG h1 h9 ht => mA_joined hb hS hln hA h hG h1 h9 ht, fun _ _ _ _ _ _ _ _ _ _ _ h hG h19 hF => mA_signed hb hS hln hA h hG h19 hF, fun _ _ _ _ _ _ _ _ _ _ _ h hG h19 h49 => mA_part hb hS hln hA h hG h19 h49 (fun _ _ _ _ _ _ _ _ _ _ _ _ _ _ h hG hn hf hx st0 h1 h2 => me_paren hb hS h hG hn hf hx st0 h1 h2), fun _ _ _ _ _ _ _ _ _ _ _ h hG h3 => mA_cell hb hS hln hA h hG h3, fun _ _ _ _ _ _ _ _ _ _ _ h hG h19 hno => mA_func hb hS hln hA h hG h19 hno, fun _ _ _ _ _ _ _ _ _ _ _ _ h hG hx hd hz hF h59 => mA_choice hb hS hln hA h hG hx hd hz hF h59, fun _ _ _ _ _ _ _ _ _ _ _ _ _ _ _ h hG hn hx hd hz h1 h9 ht hi h5 => mA_loop hb hS hln hA h hG hn hx hd hz h1 h9 ht hi h5⟩
/-- a sum, or an or, of the reference -/
def mQ (b : Nat → Nat) (q : Nat) (I0 : qTI) (L0 : qTL) (D0 : qTD) (τ : Option (Nat × Nat)) (st : qP) (ds : List qDen) (I : qTI) (L : qTL) (D : qTD) : Prop := ∃ (o : Nat) (J : qJs) (P : List Nat) (F : qFs), (τ = none → o = 0) ∧ mR b q I0 L0 D0 τ st o J P F ds I L D
def mX (b : Nat → Nat) (len q : Nat) (I0 : qTI) (L0 : qTL) (D0 : qTD) (R : qTR) (ds : List qDen) (r : qR (qDen × qP)) (out : qcO Int32) : Prop :=
  (∀ s, r = .inr s → ∃ (x : Nat) (t : List qDen) (I : qTI) (L : qTL) (D : qTD), out = some (nI x, I, L, D, R) ∧ mQ b q I0 L0 D0 none s.2 (ds ++ t) I L D ∧ (ds ++ t)[x]? = some s.1 ∧ (ds ++ t).length ≤ s.2.1) ∧
  (∀ e, r = .inl e → ∃ (st : qP) (ds' : List qDen) (I : qTI) (L : qTL) (D : qTD), out = some (0, I, L, D, R) ∧ mQ b q I0 L0 D0 (some e) st ds' I L D)
theorem mx_start (hb : qt_B b len) (h : mR b q I0 L0 D0 none st 0 J P F ds I L D) (hG : qs_G b len st) (hd : ds.length ≤ st.1) : ∃ I1 : qTI, fX12_frame w (qc_u (qc_u (qc_u I 291 28 (0 : Int32)) 291 32 (0 : Int32)) 291 34 (0 : Int32)) L D R 0 0 0 0 = some ((), I1, L, D, R) ∧ mR b q I0 L0 D0 none st 0 [] [] [(0, 0, 0, 0, 0)] ds I1 L D ∧ mG b len st 0 [] [] [(0, 0, 0, 0, 0)] ds qcF := by
  have h1 := mR_f h (k := 28) (by decide) 0 (J' := []) rfl (Or.inr ⟨by decide, rfl⟩) (Or.inr ⟨by decide, rfl⟩) (Or.inl ⟨rfl, rfl, trivial⟩) (Or.inr ⟨by decide, rfl⟩) (Or.inr ⟨by decide, rfl⟩)
  have h2 := mR_f h1 (k := 32) (by decide) 0 (P' := []) rfl (Or.inr ⟨by decide, rfl⟩) (Or.inr ⟨by decide, rfl⟩) (Or.inr ⟨by decide, rfl⟩) (Or.inl ⟨rfl, rfl, trivial⟩) (Or.inr ⟨by decide, rfl⟩)
  have h3 := mR_f h2 (k := 34) (by decide) 0 (F' := []) rfl (Or.inr ⟨by decide, rfl⟩) (Or.inr ⟨by decide, rfl⟩) (Or.inr ⟨by decide, rfl⟩) (Or.inr ⟨by decide, rfl⟩) (Or.inl ⟨rfl, rfl, trivial⟩)
  obtain ⟨I1, k1, k2⟩ := mr_frame (w := w) (R := R) h3 (s := 0) (a := 0) (by decide) (by decide) (by decide) 0 0
  refine ⟨I1, k1, k2, hG, by decide, ?_, ?_, ?_, ?_, ?_⟩
  · show 0 + 1 + ds.length ≤ st.1 + 1; omega
  · exact Nat.zero_le _
  · show 1 ≤ 0 + 1; omega
  · show 1 ≤ 1; omega
  · show 500 ≤ 4096 + st.1; omega
theorem mx_fin (hb : qt_B b len) {x n' : Nat} (h : mR b q I0 L0 D0 none st o J [x] [f] ds I L D) : ∃ I' : qTI, fX12_expression_l309 w (fX12_expression_l27 w N) (n' + 1) (I, L, D, R, x1, 2) = some (nI x, I', L, D, R) ∧ mR b q I0 L0 D0 none st o J [] [f] ds I' L D := by
  obtain ⟨u1, u2, u3⟩ := mr_taken (w := w) (R := R) h (by decide)
  refine ⟨_, ?_, u2⟩
  rw [fX12_expression_l309_s]
  unfold fX12_expression_b309 fX12_expression_b339
  rw [if_pos (mR_15 h), if_pos rfl, h.2.2.2.2.2.1.1, if_pos (show nI [f].length ≤ 1 from (by decide : nI 1 ≤ 1)), if_pos (mR_15 h), if_pos rfl, u1, qc_bds]
theorem mx_sum (hb : qt_B b len) (hS : mS b ln len q I0) (hln : ∀ c, c < 10 → ln c ≤ 8) (h : mQ b q I0 L0 D0 none st ds I L D) (hG : qs_G b len st) (hd : ds.length ≤ st.1) (h9 : qs_n9 (qs_p b ln n 0 0 0 0 (d_lf 0 []) st)) : mX b len q I0 L0 D0 R ds (qs_p b ln n 0 0 0 0 (d_lf 0 []) st) (fX12_sum w I L D R) := by
  obtain ⟨o, J, P, F, h0, h⟩ := h
  have h0 := h0 rfl
  subst h0
  obtain ⟨I1, k1, k2, k3⟩ := mx_start (w := w) (R := R) hb h hG hd
  have hv := (mA_all (w := w) (R := R) (x1 := 1) (L0 := L0) (D0 := D0) hb hS hln n).1 0 st [] [] _ ds qcF I1 L D k2 k3 ⟨_, [], rfl, rfl⟩ (Or.inr (by decide)) h9
  unfold fX12_sum fX12_expression
  rw [k1, qc_bds]
  refine ⟨fun s z => ?_, fun e z => ?_⟩
  · obtain ⟨N, n', x, t, I2, L2, D2, e1, e2, e3, e4, e5⟩ := hv.1 s z
    obtain ⟨n', rfl⟩ : ∃ k, n' = k + 1 := ⟨n' - 1, by omega⟩
    obtain ⟨I3, f1, f2⟩ := mx_fin (w := w) (R := R) (N := N) (x1 := 1) (n' := n') hb e2
    have e1 : fX12_expression_l27 w qcF (I1, L, D, R, 1, 1, 1) = fX12_expression_l309 w (fX12_expression_l27 w N) (n' + 1) (I2, L2, D2, R, 1, 2) := e1
    refine ⟨x, t, I3, L2, D2, by rw [e1, f1, qc_bds], ⟨0, _, _, _, fun _ => rfl, f2⟩, e3, ?_⟩
    have h3 : 0 + 1 + (ds ++ t).length ≤ s.2.1 + 1 := e4.2.2.1
    omega
  · obtain ⟨I2, L2, D2, st', o', J', P', F', ds', e1, e2⟩ := hv.2 e z
    exact ⟨st', ds', I2, L2, D2, by rw [e1, qc_bds], ⟨o', J', P', F', fun u => (by cases u), e2⟩⟩
theorem mx_or (hb : qt_B b len) (hS : mS b ln len q I0) (hln : ∀ c, c < 10 → ln c ≤ 8) (h : mQ b q I0 L0 D0 none st ds I L D) (hG : qs_G b len st) (hd : ds.length ≤ st.1) (h9 : qs_n9 (qs_p b ln n 2 1 0 0 (d_lf 0 []) st)) : mX b len q I0 L0 D0 R ds (qs_p b ln n 2 1 0 0 (d_lf 0 []) st) (fX12_or w I L D R) := by
  obtain ⟨o, J, P, F, h0, h⟩ := h
  have h0 := h0 rfl
  subst h0
  obtain ⟨I1, k1, k2, k3⟩ := mx_start (w := w) (R := R) hb h hG hd
  have hv := (mA_all (w := w) (R := R) (x1 := 0) (L0 := L0) (D0 := D0) hb hS hln n).2.1 1 0 st [] [] _ ds qcF I1 L D k2 k3 (by decide) (by decide) ⟨_, [], rfl, Or.inl rfl⟩ h9
  rw [if_pos (show 1 ≤ 3 by decide)] at hv
  unfold fX12_or fX12_expression
  rw [k1, qc_bds]
  refine ⟨fun s z => ?_, fun e z => ?_⟩
  · obtain ⟨N, n', x, t, I2, L2, D2, e1, e2, e3, e4, e5⟩ := hv.1 s z
    obtain ⟨n', rfl⟩ : ∃ k, n' = k + 1 := ⟨n' - 1, by omega⟩
    have hen := (qs_ended b ln n).1 _ _ _ _ _ z
    rw [K_m1 hb hS e2 (mG_st e4) hen (by decide) (by decide) ⟨_, [], rfl, rfl⟩, if_neg (fun u => by
      rcases u.2 with v | v
      · exact absurd v (by decide)
      · exact v rfl)] at e1
    obtain ⟨I3, f1, f2⟩ := mx_fin (w := w) (R := R) (N := N) (x1 := 0) (n' := 4095) hb e2
    have f1 : fX12_expression_b306 w (fX12_expression_l27 w N) I2 L2 D2 R 0 = some (nI x, I3, L2, D2, R) := f1
    refine ⟨x, t, I3, L2, D2, by rw [e1, f1, qc_bds], ⟨0, _, _, _, fun _ => rfl, f2⟩, e3, ?_⟩
    have h3 : 0 + 1 + (ds ++ t).length ≤ s.2.1 + 1 := e4.2.2.1
    omega
  · obtain ⟨I2, L2, D2, st', o', J', P', F', ds', e1, e2⟩ := hv.2 e z
    exact ⟨st', ds', I2, L2, D2, by rw [e1, qc_bds], ⟨o', J', P', F', fun u => (by cases u), e2⟩⟩
end
