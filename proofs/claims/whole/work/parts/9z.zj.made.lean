/-! the reference makes a query's code: all parts -/
/-- what is known ahead -/
def kI (ln : Nat → Nat) (len q : Nat) (x : qX) (ds : List qDen) (I0 : qTI) : Prop :=
  (I0 291 15 = 0 ∧ I0 291 40 = nI q ∧ q < 12 ∧ I0 291 8 = nI len) ∧ xF x ds I0 ∧ (∀ y d, ds[y]? = some d → nN I0 ds y d) ∧ ds.length ≤ 420 ∧ ∀ c, c < 10 → (I0 292 c = -1 ∧ ln c = 8) ∨ ∃ i, i < 11 ∧ I0 292 c = nI i ∧ I0 293 i = nI (ln c) ∧ ln c < 8
def kO (L : qTL) (D : qTD) (R : qTR) (len q : Nat) (I0 : qTI) (C : Prop) (P : qTI → Prop) (out : qcO Unit) : Prop :=
  ∃ I' : qTI, kF q I0 I' ∧ (C → P I' ∧ out = some ((), I', L, D, R)) ∧ (¬ C → out = some ((), qc_u (qc_u I' 291 15 6) 291 16 (nI len), L, D, R))
section
variable {w : qcW} {I I0 : qTI} {L : qTL} {D : qTD} {R : qTR} {ln : Nat → Nat} {len q p : Nat} {l : List (Nat × Nat)} {A : Prop} {ds : List qDen} {x : qX}
theorem kF_i (h : kF q I0 I) {k : Nat} (hk : k < 50 ∨ 52 < k) : I 291 k = I0 291 k := h 291 k (by omega) (by omega) (by omega) (by omega) (by omega)
theorem kF_n (h : kF q I0 I) {a : Nat} (ha : 292 ≤ a ∧ a ≤ 304) (k : Nat) : I a k = I0 a k := h a k (by omega) (by omega) (by omega) (by omega) (by omega)
theorem k_292 (hI : kI ln len q x ds I0) (h : kF q I0 I) (hA : (A → I 291 51 = 0) ∧ (¬ A → I 291 51 = 1)) {nd : Nat} (hnd : nd ≤ 1000) {P : qTI → Prop} (hP : A → P I) : kO L D R len q I0 (A ∧ nd ≤ 24) P (fX12_makes_b292 w I L D R (nI nd)) := by
  have e24 : nI nd ≤ 24 ↔ nd ≤ 24 := qi_le (b := 24) (by omega) (by decide)
  have h15 : I 291 15 = 0 := (kF_i h (by decide)).trans hI.1.1
  have h8 : I 291 8 = nI len := (kF_i h (by decide)).trans hI.1.2.2.2
  have e305 : fX12_makes_b305 w I L D R = some ((), qc_u (qc_u I 291 15 6) 291 16 (nI len), L, D, R) := by
    unfold fX12_makes_b305
    rw [mx_fail h15, qc_bds, h8]
  refine ⟨I, h, fun z => ⟨hP z.1, ?_⟩, fun z => ?_⟩
  · unfold fX12_makes_b292
    rw [if_pos (hA.1 z.1), if_pos (e24.mpr z.2)]
  · unfold fX12_makes_b292
    by_cases y : A
    · rw [if_pos (hA.1 y), if_neg (fun u => z ⟨y, e24.mp u⟩), e305]
    · rw [if_neg (by rw [hA.2 y]; decide), e305]
/-- a part by a node, from its beginning -/
theorem k_part (hI : kI ln len q x ds I0) (h : kF q I0 I) (hp : p < 3) (h0 : I 317 (3 * q + p) = nI 0) (hA : (A → I 291 51 = 0) ∧ (¬ A → I 291 51 = 1)) : lS q p (qc_u I 291 50 (nI p)) ∧ (∀ y d, ds[y]? = some d → nN (qc_u I 291 50 (nI p)) ds y d) ∧ lT q p (qc_u I 291 50 (nI p)) A [] (qc_u I 291 50 (nI p)) ∧ kF q I0 (qc_u I 291 50 (nI p)) := by
  have hk : kF q I0 (qc_u I 291 50 (nI p)) := kF_u h _ (by omega)
  refine ⟨⟨?_, hI.1.2.2.1, qc_u_at _ _ _ _, hp⟩, nN_k hk hI.2.2.1, lT_0 ?_ ?_, hk⟩
  · rw [qc_u_ne _ _ (Or.inr (by decide))]; exact (kF_i h (by decide)).trans hI.1.2.1
  · rw [qc_u_ne _ _ (Or.inl (by decide))]; exact h0
  · rw [qc_u_ne _ _ (Or.inr (by decide))]; exact hA
theorem q_n0_le (hI : kI ln len q x ds I0) {v : Int32} {o : Option qDen} (h : xO v o ds) : q_n0 o ≤ 400 := by
  cases o with
  | none => exact Nat.zero_le _
  | some d =>
    obtain ⟨y, h1, h2⟩ := h
    obtain ⟨⟨b1, b2, b3, b4, b5, b6⟩, -⟩ := hI.2.2.1 y d h2
    show d.2.1 ≤ 400
    omega
theorem k_257 (hI : kI ln len q x ds I0) (h : kF q I0 I) (hA : (A → I 291 51 = 0) ∧ (¬ A → I 291 51 = 1)) {nd : Nat} (hnd : nd ≤ 500) {l0 l1 : List (Nat × Nat)} (hP : A → kP q 0 l0 I ∧ kP q 1 l1 I) (h2 : I 317 (3 * q + 2) = nI 0) {v : Int32 → Prop} (hv : v (I 322 q)) : kO L D R len q I0 ((A ∧ (q_c0 x.2.2.1).length ≤ 200) ∧ max nd (q_n0 x.2.2.1) ≤ 24) (fun I' => kP q 0 l0 I' ∧ kP q 1 l1 I' ∧ kP q 2 (q_c0 x.2.2.1) I' ∧ v (I' 322 q)) (fX12_makes_b257 w I L D R (nI nd)) := by
  obtain ⟨s1, s2, s3, s4⟩ := k_part (p := 2) hI h (by decide) h2 hA
  have s1 : lS q 2 (qc_u I 291 50 2) := s1
  have s3 : lT q 2 (qc_u I 291 50 2) A [] (qc_u I 291 50 2) := s3
  have s4 : kF q I0 (qc_u I 291 50 2) := s4
  have hxF := hI.2.1
  have h59 : (qc_u I 291 50 2) 291 59 = I0 291 59 := (kF_i s4 (by decide))
  have hn0 := q_n0_le hI hxF.2.2.1
  have hPu : A → kP q 0 l0 (qc_u I 291 50 2) ∧ kP q 1 l1 (qc_u I 291 50 2) := fun z => by
    obtain ⟨a, c⟩ := hP z
    unfold kP at a c ⊢
    rw [qc_u_off _ _ (show (317 : Nat) ≠ 291 by decide), qc_u_off _ _ (show (315 : Nat) ≠ 291 by decide), qc_u_off _ _ (show (316 : Nat) ≠ 291 by decide)]
    exact ⟨a, c⟩
  unfold fX12_makes_b257
  rw [h59]
  cases hby : x.2.2.1 with
  | none =>
    have hby2 := hxF.2.2.1
    rw [hby] at hby2
    have hby2 : I0 291 59 = -1 := hby2
    rw [if_pos hby2]
    have k := k_292 (w := w) (L := L) (D := D) (R := R) (A := A ∧ ([] : List (Nat × Nat)).length ≤ 200) (P := fun I' => kP q 0 l0 I' ∧ kP q 1 l1 I' ∧ kP q 2 [] I' ∧ v (I' 322 q)) hI s4 ⟨fun z => by rw [qc_u_ne _ _ (Or.inr (by decide))]; exact hA.1 z.1, fun z => by rw [qc_u_ne _ _ (Or.inr (by decide))]; exact hA.2 (fun u => z ⟨u, Nat.zero_le _⟩)⟩ (nd := nd) (by omega) (fun z => ⟨(hPu z.1).1, (hPu z.1).2, ⟨by rw [qc_u_ne _ _ (Or.inl (by decide))]; exact h2, Nat.zero_le _, fun i e he => (by cases he)⟩, by rw [qc_u_off _ _ (by decide)]; exact hv⟩)
    show kO L D R len q I0 ((A ∧ ([] : List (Nat × Nat)).length ≤ 200) ∧ max nd 0 ≤ 24) _ _
    rw [Nat.max_eq_left (Nat.zero_le _)]
    exact k
  | some d =>
    have hby2 := hxF.2.2.1
    rw [hby] at hby2 hn0
    obtain ⟨y, y1, y2⟩ := hby2
    have hy := (List.getElem?_eq_some_iff.mp y2).1
    have hds := hI.2.2.2.1
    obtain ⟨⟨b1, b2, b3, b4, b5, b6⟩, -⟩ := hI.2.2.1 y d y2
    obtain ⟨I5, e1, e2⟩ := lT_all (w := w) (L := L) (D := D) (R := R) s1 s2 hds s3 y2
    obtain ⟨g1, g2, g3⟩ := lT_e e2
    have el : ([] : List (Nat × Nat)) ++ qs_sh ([] : List (Nat × Nat)).length d.2.2.2 = d.2.2.2 := by
      rw [List.nil_append]; exact qs_sh_0 _
    rw [el] at g2 g3
    have g4 := kF_l (by decide) s4 g1
    rw [y1, if_neg (qi_nI_m1 (by omega)), e1, qc_bds, kF_i g4 (by decide), y1, qi_inbN (by omega) (by decide), qc_gdt, nI_clamp (by omega), kF_n g4 (by decide), b2, mq_most (by omega) (by omega), qc_bds]
    exact k_292 (w := w) (L := L) (D := D) (R := R) (A := A ∧ d.2.2.2.length ≤ 200) (P := fun I' => kP q 0 l0 I' ∧ kP q 1 l1 I' ∧ kP q 2 d.2.2.2 I' ∧ v (I' 322 q)) hI g4 ⟨fun z => (g2 z).1, g3⟩ (nd := max nd d.2.1) (by omega) (fun z => ⟨kP_l (by decide) (by decide) (by decide) g1 (hPu z.1).1, kP_l (by decide) (by decide) (by decide) g1 (hPu z.1).2, (g2 z).2, by rw [g1 322 q (by omega) (by omega) (by omega) (by omega), qc_u_off _ _ (by decide)]; exact hv⟩)
/-- behind the second part -/
theorem k_219 (hI : kI ln len q x ds I0) {sort : Nat} (hs : sort < 3) {d : qDen} (hm : x.2.1 = some d) {I1 : qTI} (hk1 : kF q I0 I1) {l0 l1 : List (Nat × Nat)} (hP0 : A → kP q 0 l0 I1) (h20 : I1 317 (3 * q + 2) = nI 0) (hT : lT q 1 I1 A l1 I) {nd : Nat} (hnd : nd ≤ 400) {I2 : qTI} (h22 : I2 = I ∨ ∃ u, I2 = qc_u I 322 q u) {v : Int32 → Prop} (hv : v (I2 322 q)) : kO L D R len q I0 (((A ∧ l1.length ≤ 200) ∧ (q_c0 x.2.2.1).length ≤ 200) ∧ max (max nd (q_n1 sort x)) (q_n0 x.2.2.1) ≤ 24) (fun I' => kP q 0 l0 I' ∧ kP q 1 l1 I' ∧ kP q 2 (q_c0 x.2.2.1) I' ∧ v (I' 322 q)) (fX12_makes_b219 w I2 L D R (nI sort) (nI nd)) := by
  obtain ⟨g1, g2, g3⟩ := lT_e hT
  have g4 := kF_l (by decide) hk1 g1
  have g5 : kF q I0 I2 := by
    rcases h22 with z | ⟨u, z⟩
    · rw [z]; exact g4
    · rw [z]; exact kF_u g4 _ (by omega)
  have off : ∀ a, a ≠ 322 → I2 a = I a := fun a ha => by
    rcases h22 with z | ⟨u, z⟩
    · rw [z]
    · rw [z]; exact qc_u_off _ _ ha
  have hmn := hI.2.1.2.1
  rw [hm] at hmn
  obtain ⟨y, y1, y2⟩ := hmn
  have hy := (List.getElem?_eq_some_iff.mp y2).1
  have hds := hI.2.2.2.1
  obtain ⟨⟨b1, b2, b3, b4, b5, b6⟩, -⟩ := hI.2.2.1 y d y2
  unfold fX12_makes_b219 fX12_makes_b239
  rw [kF_i g5 (by decide), y1, qi_inbN (by omega) (by decide), qc_gdt, nI_clamp (by omega), kF_n g5 (by decide), b2]
  have hn1 : q_n1 sort x = d.2.1 + (if sort = 2 then 1 else 0) := by unfold q_n1; rw [hm]
  have fin := k_257 (w := w) (L := L) (D := D) (R := R) (A := A ∧ l1.length ≤ 200) (l0 := l0) (l1 := l1) (nd := max nd (q_n1 sort x)) hI g5 ⟨fun z => by rw [off 291 (by decide)]; exact (g2 z).1, fun z => by rw [off 291 (by decide)]; exact g3 z⟩ (by rw [hn1]; split <;> omega) (fun z => by
    have a1 := kP_l (by decide) (by decide) (by decide) g1 (hP0 z.1)
    have a2 := (g2 z).2
    unfold kP at a1 a2 ⊢
    rw [off 317 (by decide), off 315 (by decide), off 316 (by decide)]
    exact ⟨a1, a2⟩) (by rw [off 317 (by decide), g1 317 (3 * q + 2) (by omega) (by omega) (by omega) (by omega)]; exact h20) hv
  have e2 : nI sort = 2 ↔ sort = 2 := qi_nI_inj' (j := 2) (by omega) (by decide)
  by_cases z : sort = 2
  · rw [if_pos (e2.mpr z), show nI d.2.1 + (1 : Int32) = nI (d.2.1 + 1) from qi_s1 _, mq_most (by omega) (by omega), qc_bds]
    rw [hn1, if_pos z] at fin ⊢
    exact fin
  · rw [if_neg (fun u => z (e2.mp u)), Int32.add_zero, mq_most (by omega) (by omega), qc_bds]
    rw [hn1, if_neg z] at fin ⊢
    exact fin
end
