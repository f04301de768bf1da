theorem qfr_267 : ∀ q ∈ qc_frL, ¬ (q.1 = 267 ∧ (q.2.1 = 4 ∨ q.2.1 = 7 ∨ q.2.1 = 8)) := by decide
/-! the class reads a query -/
abbrev qKs : Type := Nat → List (Nat × Nat) × Nat × Nat
def kU (K : qKs) (c : Nat) (t : List (Nat × Nat) × Nat × Nat) : qKs := fun c' => if c' = c then t else K c'
theorem kU_at (K : qKs) (c : Nat) (t : List (Nat × Nat) × Nat × Nat) : kU K c t c = t := if_pos rfl
theorem kU_ne (K : qKs) {c c' : Nat} (t : List (Nat × Nat) × Nat × Nat) (h : c' ≠ c) : kU K c t c' = K c' := if_neg h
/-- what a reading may change -/
def rF (I : qTI) (D : qTD) (R : qTR) (I' : qTI) (D' : qTD) (R' : qTR) : Prop :=
  (∀ x, x ≠ 267 → x ≠ 268 → ¬ (270 ≤ x ∧ x ≤ 278) → I' x = I x) ∧ (∀ x, x ≠ 268 → x ≠ 279 → D' x = D x) ∧ (∀ x k, ¬ (x = 267 ∧ (k = 4 ∨ k = 7 ∨ k = 8)) → ¬ (x = 268 ∧ k = 1) → R' x k = R x k)
theorem rF_rf (I : qTI) (D : qTD) (R : qTR) : rF I D R I D R := ⟨fun _ _ _ _ => rfl, fun _ _ _ => rfl, fun _ _ _ _ => rfl⟩
theorem rF_tr {I I1 I2 : qTI} {D D1 D2 : qTD} {R R1 R2 : qTR} (h : rF I D R I1 D1 R1) (g : rF I1 D1 R1 I2 D2 R2) : rF I D R I2 D2 R2 := ⟨fun x a c d => (g.1 x a c d).trans (h.1 x a c d), fun x a c => (g.2.1 x a c).trans (h.2.1 x a c), fun x k a c => (g.2.2 x k a c).trans (h.2.2 x k a c)⟩
theorem rF_X {c : Nat} (hc : c = 270 ∨ c = 273 ∨ c = 276) {I I1 : qTI} {D D1 : qTD} {R R1 : qTR} (h : fX c I D R I1 D1 R1) : rF I D R I1 D1 R1 := ⟨fun x a d e => funext fun k => h.1 x k d (by omega) (by omega) (by omega) (by omega), fun x a d => h.2.1 x a d, fun x k a d => h.2.2 x k d⟩
theorem rF_c {I : qTI} {D : qTD} {R : qTR} (c : Nat) : rF I D R I D (qc_u R 267 4 c) := ⟨fun _ _ _ _ => rfl, fun _ _ _ => rfl, fun x k a _ => qc_u_ne _ _ (by omega)⟩
theorem rF_I {I : qTI} {D : qTD} {R : qTR} (k : Nat) (v : Int32) : rF I D R (qc_u I 267 k v) D R := ⟨fun x a _ _ => qc_u_off _ _ a, fun _ _ _ => rfl, fun _ _ _ _ => rfl⟩
theorem rF_r {I : qTI} {D : qTD} {R : qTR} {k : Nat} (hk : k = 7 ∨ k = 8) (v : Nat) : rF I D R I D (qc_u R 267 k v) := ⟨fun _ _ _ _ => rfl, fun _ _ _ => rfl, fun x j a _ => qc_u_ne _ _ (by omega)⟩
def rN (b ln : Nat → Nat) (len : Nat) (st : qP) (K : qKs) (I : qTI) (D : qTD) (R : qTR) : Prop :=
  tpX b len I ∧ clX ln I ∧ qc_FR R ∧ sX b st.1 I D R ∧ I 267 6 = nI 0 ∧ (I 267 5 = nI st.2.length ∧ ∀ i v, st.2[i]? = some v → D 279 i = v) ∧ ∀ c, (c = 270 ∨ c = 273 ∨ c = 276) → kC c (K c).1 (K c).2.1 (K c).2.2 I
def rE (B : Nat) (e : Nat × Nat) (I : qTI) (R : qTR) : Prop := sE e I R ∧ qc_FR R ∧ ∀ c, (c = 270 ∨ c = 273 ∨ c = 276) → ∃ n, n ≤ B ∧ I c 2 = nI n
section
variable {w : qcW} {I : qTI} {L : qTL} {D : qTD} {R : qTR} {b ln : Nat → Nat} {len c B : Nat} {st : qP} {K : qKs} {e : Nat × Nat}
theorem FR_4 (h : qc_FR R) {k : Nat} (hk : k = 4 ∨ k = 7 ∨ k = 8) (v : Nat) : qc_FR (qc_u R 267 k v) := fun q hq => by
  rw [qc_u_ne _ _ (by have := (qfr_267 q hq); omega)]
  exact h q hq
/-- ahead of a sum -/
theorem rN_B (hc : c = 270 ∨ c = 273 ∨ c = 276) (h : rN b ln len st K I D R) (hG : qs_G b len st) {l : List (Nat × Nat)} {h1 pk : Nat} (hK : K c = (l, h1, pk)) (hl : l.length ≤ 20) (hh : h1 ≤ pk) (hp : pk ≤ 10) : cB b ln len c 200 0 st l h1 pk I D (qc_u R 267 4 c) := by
  obtain ⟨a1, a2, a3, a4, a5, a6, a7⟩ := h
  have a8 := a7 c hc
  rw [hK] at a8
  exact ⟨⟨a1, qc_u_at _ _ _ _, FR_4 a3 (by omega) c, a2⟩, ⟨⟨a4.1, a4.2.1, a4.2.2.1, by rw [qc_u_ne _ _ (Or.inl (by decide))]; exact a4.2.2.2.1, a4.2.2.2.2⟩, a5, a6, a8⟩, hG, by decide, by omega, by omega, by omega, hh, by decide⟩
theorem rN_X (hc : c = 270 ∨ c = 273 ∨ c = 276) (h : rN b ln len st K I D R) {I1 : qTI} {D1 : qTD} {R1 : qTR} (hf : fX c I D (qc_u R 267 4 c) I1 D1 R1) {st1 : qP} {l : List (Nat × Nat)} {h1 pk : Nat} (hD : cD b c st1 0 l h1 pk I1 D1 R1) : rN b ln len st1 (kU K c (l, h1, pk)) I1 D1 R1 ∧ R1 267 4 = c := by
  obtain ⟨a1, a2, a3, a4, a5, a6, a7⟩ := h
  have hT := cT_fX hc (⟨a1, qc_u_at _ _ _ _, FR_4 a3 (by omega) c, a2⟩ : cT b ln len c I (qc_u R 267 4 c)) hf
  refine ⟨⟨hT.1, hT.2.2.2, hT.2.2.1, hD.1, hD.2.1, hD.2.2.1, fun c' hc' => ?_⟩, hT.2.1⟩
  by_cases z : c' = c
  · rw [z, kU_at]; exact hD.2.2.2
  · rw [kU_ne _ _ z]
    exact kC_co (a7 c' hc') (fun k _ _ => hf.1 c' k (by omega) (by omega) (by omega) (by omega) (by omega)) (funext fun k => hf.1 (c' + 1) k (by omega) (by omega) (by omega) (by omega) (by omega)) (funext fun k => hf.1 (c' + 2) k (by omega) (by omega) (by omega) (by omega) (by omega))
theorem rE_X (hc : c = 270 ∨ c = 273 ∨ c = 276) (h : ∀ c', (c' = 270 ∨ c' = 273 ∨ c' = 276) → ∃ n, n ≤ B ∧ I c' 2 = nI n) {I1 : qTI} {D1 : qTD} {R0 R1 : qTR} {n : Nat} (hf : fX c I D R0 I1 D1 R1) (hs : eS c e n I1 R1) (hn : n ≤ B) : rE B e I1 R1 := by
  refine ⟨hs.1, hs.2.2.1, fun c' hc' => ?_⟩
  by_cases z : c' = c
  · rw [z]; exact ⟨n, hn, hs.2.2.2⟩
  · obtain ⟨m, m1, m2⟩ := h c' hc'
    exact ⟨m, m1, (hf.1 c' 2 (by omega) (by omega) (by omega) (by omega) (by omega)).trans m2⟩
theorem rE_S (h : rE B e I R) (hc : c = 270 ∨ c = 273 ∨ c = 276) : ∃ n, n ≤ B ∧ eS c e n I (qc_u R 267 4 c) := by
  obtain ⟨n, h1, h2⟩ := h.2.2 c hc
  exact ⟨n, h1, ⟨h.1.1, h.1.2.1, h.1.2.2.1, h.1.2.2.2.1, by rw [qc_u_ne _ _ (Or.inl (by decide))]; exact h.1.2.2.2.2⟩, qc_u_at _ _ _ _, FR_4 h.2.1 (by omega) c, h2⟩
theorem rN_n (h : rN b ln len st K I D R) : ∀ c', (c' = 270 ∨ c' = 273 ∨ c' = 276) → ∃ n, n ≤ 5000 ∧ I c' 2 = nI n := fun c' hc' => ⟨_, (h.2.2.2.2.2.2 c' hc').1.1, (h.2.2.2.2.2.2 c' hc').2.1⟩
/-- a sum into part c; s: 0 a sum, 2 an or -/
theorem r_sum (hW : qc_WF w) (hb : qt_B b len) (hln : ∀ c, c < 10 → ln c ≤ 8) (hc : c = 270 ∨ c = 273 ∨ c = 276) (h : rN b ln len st K I D R) (hG : qs_G b len st) {l : List (Nat × Nat)} {h1 pk : Nat} (hK : K c = (l, h1, pk)) (hl : l.length ≤ 20) (hh : h1 ≤ pk) (hp : pk ≤ 10) {tag x : Nat} (ht : (tag = 0 ∧ x = 0) ∨ (tag = 2 ∧ x = 1)) :
    ∃ (k : Int32) (I' : qTI) (D' : qTD) (R' : qTR), fX2_rc w 200 tag 0 I L D (qc_u R 267 4 c) = some (k, I', L, D', R') ∧ fX c I D (qc_u R 267 4 c) I' D' R' ∧
      (∀ q, qs_p b ln qN tag x 0 0 (d_lf 0 []) st = .inr q → k = nI q.1.1 ∧ rN b ln len q.2 (kU K c (l ++ qs_sh l.length q.1.2.2.2, h1 + 1, max pk (h1 + q.1.2.1))) I' D' R' ∧ R' 267 4 = c ∧ qs_Q b len 0 st q) ∧ (∀ e, qs_p b ln qN tag x 0 0 (d_lf 0 []) st = .inl e → rE 5000 e I' R' ∧ R' 267 4 = c) := by
  have hB := rN_B hc h hG hK hl hh hp
  have hA := cA_all hW hc hb hln qN
  have hv : cV b c L 0 l h1 pk (2500 + 8 * 200) (qs_p b ln qN tag x 0 0 (d_lf 0 []) st) I D (qc_u R 267 4 c) (fX2_rc w 200 tag 0 I L D (qc_u R 267 4 c)) := by
    rcases ht with ⟨z1, z2⟩ | ⟨z1, z2⟩
    · subst z1; subst z2
      exact hA.sum 200 0 st l h1 pk I L D _ hB (by decide)
    · subst z1; subst z2
      exact hA.joined 1 200 0 st l h1 pk I L D _ hB (by decide) (by decide) (by decide)
  have h9 : qs_n9 (qs_p b ln qN tag x 0 0 (d_lf 0 []) st) := by
    rcases ht with ⟨z1, z2⟩ | ⟨z1, z2⟩
    · subst z1; subst z2; exact qn_0 hb hln hG
    · subst z1; subst z2; exact qn_2 hb hln hG
  obtain ⟨k, I', D', R', e1, e2, e3, e4⟩ := hv h9
  refine ⟨k, I', D', R', e1, e2, fun q z => ?_, fun e z => ?_⟩
  · obtain ⟨f1, f2⟩ := e3 q z
    obtain ⟨g1, g2⟩ := rN_X hc h e2 f2
    refine ⟨f1, g1, g2, ?_⟩
    rcases ht with ⟨z1, z2⟩ | ⟨z1, z2⟩
    · subst z1; subst z2; exact good0 hb hln hG z
    · subst z1; subst z2; exact good2 hb hln hG z
  · obtain ⟨n', f1, f2, f3⟩ := e4 e z
    exact ⟨rE_X hc (rN_n h) e2 f1 (by omega), f1.2.1⟩
end
