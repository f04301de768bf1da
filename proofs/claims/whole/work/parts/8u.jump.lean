/-! any act, also one that jumps -/
def qx_fc2 (C C' : qcM) : Prop := (∀ a k, ¬ (a = 287 ∧ k = 2) → ¬ (a = 286 ∧ k = 5) → C'.1 a k = C.1 a k) ∧ (∀ a, a ≠ 288 → a ≠ 261 → C'.2.1 a = C.2.1 a) ∧ (∀ a, a ≠ 289 → a ≠ 262 → C'.2.2.1 a = C.2.2.1 a) ∧ C'.2.2.2 = C.2.2.2
def qx_fs2 (S S' : qcM) : Prop := (∀ a k, ¬ (a = 291 ∧ (k = 67 ∨ k = 68 ∨ k = 69 ∨ k = 73)) → a ≠ 330 → S'.1 a k = S.1 a k) ∧ (∀ a, a ≠ 328 → a ≠ 331 → a ≠ 295 → S'.2.1 a = S.2.1 a) ∧ (∀ a, a ≠ 329 → a ≠ 332 → a ≠ 296 → S'.2.2.1 a = S.2.2.1 a) ∧ S'.2.2.2 = S.2.2.2
/-- one act of both, and where it leads -/
def qx_A (w : qcW) (L0 : Nat → Int64) (D0 : Nat → UInt64) (L1 : Nat → Int64) (D1 : Nat → UInt64) (rc : Int32) (m : Nat) (o a : Int32) (n : Nat) (H : Nat → List Nat) (i : Nat) (C S : qcM) : Prop :=
  ∃ (f : Int32) (C' S' : qcM) (m' i' : Nat), fX4_step w C.1 C.2.1 C.2.2.1 C.2.2.2 o a = some (f, C') ∧ fX12_does w S.1 S.2.1 S.2.2.1 S.2.2.2 o a = some ((), S') ∧ S'.1 291 69 = f ∧ 0 ≤ f.toInt ∧ qx_fc2 C C' ∧ qx_fs2 S S' ∧ qx_N S' ∧ qx_W L0 D0 L1 D1 rc m' C' S' ∧ (m' = m ∨ (m' = m + 1 ∧ i + 1 = n ∧ ∃ l, l < 8 ∧ o = nI (20 + l))) ∧
    (f = 0 → i < i' ∧ i' ≤ n ∧ C'.1 286 5 = nI i' ∧ S'.1 291 68 = nI i' ∧ qx_pl (H i') C' S')
section
variable {w : qcW} {I : qTI} {L : qTL} {D : qTD} {R : qTR} {p : Nat → Int64} {n : Nat} {o a : Int32}
/-- whether it jumps -/
def qx_go (o : Int32) (v : Int64) : Bool := if o = 1801 then !(v == 0) else v == 0
theorem cx_jump (hn : n < 24) (ho : o = 1800 ∨ o = 1801) : fX4_step w (qc_u I 287 2 (nI (n + 1))) (qi_rr L 288 p) D R o a = some (0, if qx_go o (p n) = true then qc_u (qc_u I 287 2 (nI n)) 286 5 a else qc_u I 287 2 (nI n), qi_rr L 288 p, D, R) := by
  have e : fX4_step w (qc_u I 287 2 (nI (n + 1))) (qi_rr L 288 p) D R o a = (qc_bd (qc_bd (fX6_take w (qc_u I 287 2 (nI (n + 1))) (qi_rr L 288 p) D R) fun r6 I6 L6 D6 R6 => if (lg_cmp r6 (0 : Int64)) = 0 then (fX4_jump_b66 w I6 L6 D6 R6 o a (0 : Int32)) else (fX4_jump_b66 w I6 L6 D6 R6 o a (1 : Int32))) fun r3 I3 L3 D3 R3 => some ((0 : Int32), I3, L3, D3, R3)) := by
    rcases ho with rfl | rfl <;> rfl
  rw [e, cx_take hn, qc_bds]
  unfold fX4_jump_b66 fX4_jump_b78 qx_go
  simp only [lg_cmp_eq]
  rcases ho with rfl | rfl
  · rw [if_neg (show ¬ (1800 : Int32) = 1801 by decide), if_neg (show ¬ (1800 : Int32) = 1801 by decide), if_neg (show ¬ (1800 : Int32) = 1801 by decide)]
    by_cases q : p n = 0
    · rw [if_pos q, if_pos True.intro, qc_bds, if_pos (by rw [q]; rfl)]
    · rw [if_neg q, if_neg (by decide), qc_bds, if_neg (by rw [beq_iff_eq]; exact q)]
  · rw [if_pos rfl, if_pos rfl, if_pos rfl]
    by_cases q : p n = 0
    · rw [if_pos q, if_neg (by decide), qc_bds, if_neg (by rw [q]; decide)]
    · rw [if_neg q, if_pos True.intro, qc_bds, if_pos (by rw [Bool.not_eq_true', beq_eq_false_iff_ne]; exact q)]
theorem mx_jump (hn : n < 24) (ho : o = 1800 ∨ o = 1801) : fX12_does w (qc_u I 291 67 (nI (n + 1))) (qi_rr L 328 p) D R o a = some ((), if qx_go o (p n) = true then qc_u (qc_u I 291 67 (nI n)) 291 68 a else qc_u I 291 67 (nI n), qi_rr L 328 p, D, R) := by
  obtain ⟨b0, c0, d1⟩ := mx_u (show n + 1 ≤ 24 by omega)
  have e : fX12_does w (qc_u I 291 67 (nI (n + 1))) (qi_rr L 328 p) D R o a = (qc_bd (fX12_goes w (qc_u I 291 67 (nI (n + 1))) (qi_rr L 328 p) D R o a) fun r3 I3 L3 D3 R3 => some ((), I3, L3, D3, R3)) := by
    rcases ho with rfl | rfl <;> rfl
  have h2 : ¬ o = 1802 := by rcases ho with rfl | rfl <;> decide
  have h3 : ¬ o = 1810 := by rcases ho with rfl | rfl <;> decide
  have hs : qc_u (qc_u I 291 67 (nI n)) 291 68 (qc_u I 291 67 (nI n) 291 68) = qc_u I 291 67 (nI n) := qx_self rfl
  rw [e]
  unfold fX12_goes fX12_goes_b79 fX12_goes_b91 qx_go
  rw [if_neg h2, if_neg h3]
  simp only [qc_u_at, d1, qc_uu, b0, qc_gdt, c0, qi_rr_on, lg_cmp_eq, hs]
  rcases ho with rfl | rfl
  · rw [if_neg (show ¬ (1800 : Int32) = 1801 by decide), if_neg (show ¬ (1800 : Int32) = 1801 by decide), if_neg (show ¬ (1800 : Int32) = 1801 by decide)]
    by_cases q : p n = 0
    · rw [if_pos q, if_pos True.intro, qc_bds, if_pos (by rw [q]; rfl)]
    · rw [if_neg q, if_neg (by decide), qc_bds, if_neg (by rw [beq_iff_eq]; exact q)]
  · rw [if_pos rfl, if_pos rfl, if_pos rfl]
    by_cases q : p n = 0
    · rw [if_pos q, if_neg (by decide), qc_bds, if_neg (by rw [q]; decide)]
    · rw [if_neg q, if_pos True.intro, qc_bds, if_pos (by rw [Bool.not_eq_true', beq_eq_false_iff_ne]; exact q)]
end
section
variable {w : qcW} {C S : qcM} {L0 : Nat → Int64} {D0 : Nat → UInt64} {L1 : Nat → Int64} {D1 : Nat → UInt64} {rc : Int32} {m nr q n i : Nat} {op ar : Nat → Int32} {H : Nat → List Nat}
theorem qx_mkA {o a : Int32} {i' : Nat} {I1 I2 : qTI} (hN : qx_N S) (h69 : S.1 291 69 = 0) (hW : qx_W L0 D0 L1 D1 rc m C S) (eX : fX4_step w C.1 C.2.1 C.2.2.1 C.2.2.2 o a = some (0, I1, C.2.1, C.2.2.1, C.2.2.2)) (eM : fX12_does w S.1 S.2.1 S.2.2.1 S.2.2.2 o a = some ((), I2, S.2.1, S.2.2.1, S.2.2.2)) (k1 : ∀ a k, ¬ (a = 287 ∧ k = 2) → ¬ (a = 286 ∧ k = 5) → I1 a k = C.1 a k) (k2 : ∀ a k, ¬ (a = 291 ∧ (k = 67 ∨ k = 68)) → I2 a k = S.1 a k) (hi : i < i') (hi2 : i' ≤ n) (h5 : I1 286 5 = nI i') (h8 : I2 291 68 = nI i') (h2 : I1 287 2 = nI (H i').length) (h7 : I2 291 67 = nI (H i').length) (hR : qp_R (H i') (C.2.1 288) (C.2.2.1 289) (S.2.1 328) (S.2.2.1 329)) : qx_A w L0 D0 L1 D1 rc m o a n H i C S := by
  have c1 : ∀ a, a ≠ 287 → a ≠ 286 → I1 a = C.1 a := fun a x y => funext fun k => k1 a k (by omega) (by omega)
  have c2 : ∀ a, a ≠ 291 → I2 a = S.1 a := fun a x => funext fun k => k2 a k (by omega)
  exact ⟨0, (I1, C.2.1, C.2.2.1, C.2.2.2), (I2, S.2.1, S.2.2.1, S.2.2.2), m, i', eX, eM, (k2 291 69 (by omega)).trans h69, by decide, ⟨fun a k x y => k1 a k x y, fun _ _ _ => rfl, fun _ _ _ => rfl, rfl⟩, ⟨fun a k x y => k2 a k (by omega), fun _ _ _ _ => rfl, fun _ _ _ _ => rfl, rfl⟩, hN, qx_W_co hW (c1 258 (by decide) (by decide)) (c1 259 (by decide) (by decide)) (c1 260 (by decide) (by decide)) rfl rfl (c2 292 (by decide)) (c2 293 (by decide)) (c2 294 (by decide)) rfl rfl (c2 330 (by decide)) rfl rfl (k2 291 73 (by omega)), Or.inl rfl, fun _ => ⟨hi, hi2, h5, h8, h2, h7, hR⟩⟩
theorem qx_act (hat : qw_at nr n op ar H i) (hi : i < n) (hn : n ≤ 200) (hH : ∀ i, i ≤ n → (H i).length ≤ 24) (hre : qx_re w nr q C S) (hN : qx_N S) (h69 : S.1 291 69 = 0) (hW : qx_W L0 D0 L1 D1 rc m C S) (hsto : ∀ l, l < 8 → op i = nI (20 + l) → i + 1 = n ∧ m < 16 ∧ ∃ c, c < 10 ∧ ar i = nI c ∧ C.1 258 c = rc) (hP : qx_pl (H i) C S) (hc5 : C.1 286 5 = nI (i + 1)) (hs8 : S.1 291 68 = nI (i + 1)) : qx_A w L0 D0 L1 D1 rc m (op i) (ar i) n H i C S := by
  rcases hat with h | ⟨ho, t, ha, t1, t2, h1, h2⟩ | ⟨ho, t, ha, t1, t2, h1⟩
  · obtain ⟨f, C', S', m', e1, e2, e3, e4, ⟨c1, c2, c3, c4⟩, ⟨s1, s2, s3, s4⟩, e7, e8, e9, e10⟩ := qx_step h (hH i (by omega)) (hH (i + 1) (by omega)) hre hN h69 hW (fun l hl ho => (hsto l hl ho).2) hP
    refine ⟨f, C', S', m', i + 1, e1, e2, e3, e4, ⟨fun a k ha _ => c1 a k ha, c2, c3, c4⟩, ⟨fun a k ha hb => s1 a k (by omega) hb, s2, s3, s4⟩, e7, e8, ?_, fun hf => ⟨by omega, by omega, ?_, ?_, e10 hf⟩⟩
    · rcases e9 with q | ⟨q1, l, q2, q3⟩
      · exact Or.inl q
      · exact Or.inr ⟨q1, (hsto l q2 q3).1, l, q2, q3⟩
    · rw [c1 _ _ (by omega), hc5]
    · rw [s1 _ _ (by omega) (by omega), hs8]
  · obtain ⟨p1, p2, p3⟩ := hP
    have hl := hH i (by omega)
    rw [h1] at p1 p2 p3 hl
    have hl : (H (i + 1)).length < 24 := hl
    have p1 : C.1 287 2 = nI ((H (i + 1)).length + 1) := p1
    have p2 : S.1 291 67 = nI ((H (i + 1)).length + 1) := p2
    obtain ⟨v1, hR⟩ := p3
    obtain ⟨v2, v3⟩ := v1.1 (by decide)
    have eX := cx_jump (w := w) (I := C.1) (L := C.2.1) (D := C.2.2.1) (R := C.2.2.2) (p := C.2.1 288) (a := ar i) hl ho
    have eM := mx_jump (w := w) (I := S.1) (L := S.2.1) (D := S.2.2.1) (R := S.2.2.2) (p := S.2.1 328) (a := ar i) hl ho
    rw [qx_self p1, qi_rr_0] at eX
    rw [qx_self p2, qi_rr_0, ← v2] at eM
    cases hg : qx_go (op i) (C.2.1 288 (H (i + 1)).length)
    · rw [hg, if_neg (by decide)] at eX eM
      refine qx_mkA hN h69 hW eX eM (fun a k h1 h2 => qc_u_ne _ _ (by omega)) (fun a k h1 => qc_u_ne _ _ (by omega)) (by omega) (by omega) ?_ ?_ (qc_u_at _ _ _ _) (qc_u_at _ _ _ _) hR
      · exact (qc_u_ne _ _ (Or.inl (by decide))).trans hc5
      · exact (qc_u_ne _ _ (Or.inr (by decide))).trans hs8
    · rw [hg, if_pos rfl] at eX eM
      rw [← h2] at hR
      refine qx_mkA hN h69 hW eX eM (fun a k h1 h2 => (qc_u_ne _ _ (by omega)).trans (qc_u_ne _ _ (by omega))) (fun a k h1 => (qc_u_ne _ _ (by omega)).trans (qc_u_ne _ _ (by omega))) t1 t2 ?_ ?_ ?_ ?_ hR
      · rw [qc_u_at, ha]
      · rw [qc_u_at, ha]
      · rw [qc_u_ne _ _ (Or.inl (by decide)), qc_u_at, h2]
      · rw [qc_u_ne _ _ (Or.inr (by decide)), qc_u_at, h2]
  · have eX : fX4_step w C.1 C.2.1 C.2.2.1 C.2.2.2 (op i) (ar i) = some (0, qc_u C.1 286 5 (ar i), C.2.1, C.2.2.1, C.2.2.2) := by
      rw [ho]; rfl
    have eM : fX12_does w S.1 S.2.1 S.2.2.1 S.2.2.2 (op i) (ar i) = some ((), qc_u S.1 291 68 (ar i), S.2.1, S.2.2.1, S.2.2.2) := by
      rw [ho]; rfl
    obtain ⟨p1, p2, p3⟩ := hP
    rw [← h1] at p1 p2 p3
    refine qx_mkA hN h69 hW eX eM (fun a k h1 h2 => qc_u_ne _ _ (by omega)) (fun a k h1 => qc_u_ne _ _ (by omega)) t1 t2 ?_ ?_ ?_ ?_ p3
    · rw [qc_u_at, ha]
    · rw [qc_u_at, ha]
    · exact (qc_u_ne _ _ (Or.inl (by decide))).trans p1
    · exact (qc_u_ne _ _ (Or.inr (by decide))).trans p2
end
