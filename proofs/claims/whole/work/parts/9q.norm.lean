/-! the class's parser while all is well -/
def clX (ln : Nat → Nat) (I : qTI) : Prop := ∀ cc, cc < 10 → (I 258 cc = -1 ∧ ln cc = 8) ∨ ∃ i, i < 10 ∧ I 258 cc = nI i ∧ I 259 i = nI (ln cc) ∧ ln cc < 8
def cT (b ln : Nat → Nat) (len c : Nat) (I : qTI) (R : qTR) : Prop := tpX b len I ∧ R 267 4 = c ∧ qc_FR R ∧ clX ln I
def cD (b : Nat → Nat) (c : Nat) (st : qP) (o : Nat) (l : List (Nat × Nat)) (h pk : Nat) (I : qTI) (D : qTD) (R : qTR) : Prop :=
  sX b st.1 I D R ∧ I 267 6 = nI o ∧ (I 267 5 = nI st.2.length ∧ ∀ i v, st.2[i]? = some v → D 279 i = v) ∧ kC c l h pk I
theorem cT_fX {b ln : Nat → Nat} {len c : Nat} {I I' : qTI} {D D' : qTD} {R R' : qTR} (hc : c = 270 ∨ c = 273 ∨ c = 276) (h : cT b ln len c I R) (f : fX c I D R I' D' R') : cT b ln len c I' R' := by
  obtain ⟨h1, h2, h3, h4⟩ := h
  have o : ∀ x k, x ≤ 266 → I' x k = I x k := fun x k hx => f.1 x k (by omega) (by omega) (by omega) (by omega) (by omega)
  refine ⟨⟨(o 265 1 (by decide)).trans h1.1, fun p hp => (o 266 p (by decide)).trans (h1.2 p hp)⟩, (f.2.2 267 4 (by decide)).trans h2, fX_FR f h3, fun cc hcc => ?_⟩
  rw [o 258 cc (by decide)]
  rcases h4 cc hcc with z | ⟨i, z1, z2, z3, z4⟩
  · exact Or.inl z
  · exact Or.inr ⟨i, z1, z2, (o 259 i (by decide)).trans z3, z4⟩
/-- a token, taken or told as a fault -/
def cU (b : Nat → Nat) (c : Nat) (L : qTL) (o : Nat) (r : qR qP) (l : List (Nat × Nat)) (h pk : Nat) (I : qTI) (D : qTD) (R : qTR) (out : qcO Unit) : Prop :=
  ∃ (I' : qTI) (D' : qTD) (R' : qTR), out = some ((), I', L, D', R') ∧ fX c I D R I' D' R' ∧ (∀ st', r = .inr st' → cD b c st' o l h pk I' D' R') ∧ (∀ e, r = .inl e → eS c e l.length I' R')
/-- a sum, read or told as a fault -/
def cV (b : Nat → Nat) (c : Nat) (L : qTL) (o : Nat) (l : List (Nat × Nat)) (h pk B : Nat) (r : qR (qDen × qP)) (I : qTI) (D : qTD) (R : qTR) (out : qcO Int32) : Prop :=
  qs_n9 r → ∃ (k : Int32) (I' : qTI) (D' : qTD) (R' : qTR), out = some (k, I', L, D', R') ∧ fX c I D R I' D' R' ∧ (∀ q, r = .inr q → k = nI q.1.1 ∧ cD b c q.2 o (l ++ qs_sh l.length q.1.2.2.2) (h + 1) (max pk (h + q.1.2.1)) I' D' R') ∧ (∀ e, r = .inl e → ∃ n', eS c e n' I' R' ∧ l.length ≤ n' ∧ n' ≤ B)
section
variable {w : qcW} {b ln : Nat → Nat} {len : Nat} {I : qTI} {L : qTL} {D : qTD} {R : qTR} {c o o1 h pk h1 pk1 B B1 K : Nat} {l l1 : List (Nat × Nat)} {st : qP}
theorem n9_of {α β : Type} {r : qR α} {f : α → qR β} (h : qs_n9 (qs_b r f)) : qs_n9 r ∧ ∀ x, r = .inr x → qs_n9 (f x) := by
  cases r with
  | inl e => exact ⟨fun j z => (by cases z; exact h j rfl), fun x z => by cases z⟩
  | inr a => exact ⟨fun j z => (by cases z), fun x z => by cases z; exact h⟩
theorem cV_fX {I1 : qTI} {D1 : qTD} {R1 : qTR} {r : qR (qDen × qP)} {out : qcO Int32} (f : fX c I D R I1 D1 R1) (hv : cV b c L o l h pk B r I1 D1 R1 out) : cV b c L o l h pk B r I D R out := fun h9 => by
  obtain ⟨k, I', D', R', a1, a2, a3, a4⟩ := hv h9
  exact ⟨k, I', D', R', a1, fX_tr f a2, a3, a4⟩
theorem cV_eU {n : Nat} {e : Nat × Nat} {out : qcO Int32} (hu : eU c e n K I L D R out) (h1 : l.length ≤ n) (h2 : n + K ≤ B) : cV b c L o l h pk B (.inl e) I D R out := fun _ => by
  obtain ⟨r, I1, D1, R1, n1, e1, f1, s1, h3, h4⟩ := hu
  exact ⟨r, I1, D1, R1, e1, f1, fun q z => (by cases z), fun e' z => by cases z; exact ⟨n1, s1, by omega, by omega⟩⟩
theorem cV_bU {r1 : qR qP} {g : qP → qR (qDen × qP)} {out1 : qcO Unit} {f : Unit → qTI → qTL → qTD → qTR → qcO Int32} (hu : cU b c L o1 r1 l1 h1 pk1 I D R out1)
    (hok : ∀ st1 I1 D1 R1, r1 = .inr st1 → fX c I D R I1 D1 R1 → cD b c st1 o1 l1 h1 pk1 I1 D1 R1 → cV b c L o l h pk B (g st1) I1 D1 R1 (f () I1 L D1 R1))
    (herr : ∀ e I1 D1 R1, eS c e l1.length I1 R1 → eU c e l1.length K I1 L D1 R1 (f () I1 L D1 R1)) (hl : l.length ≤ l1.length) (hB : l1.length + K ≤ B) : cV b c L o l h pk B (qs_b r1 g) I D R (qc_bd out1 f) := fun h9 => by
  obtain ⟨I1, D1, R1, e1, f1, s1, s2⟩ := hu
  obtain ⟨n1, n2⟩ := n9_of h9
  rw [e1, qc_bds]
  cases r1 with
  | inr st1 => exact cV_fX f1 (hok st1 I1 D1 R1 rfl f1 (s1 st1 rfl)) (n2 st1 rfl)
  | inl e => exact cV_fX f1 (cV_eU (herr e I1 D1 R1 (s2 e rfl)) hl hB) h9
theorem cV_bV {r1 : qR (qDen × qP)} {g : qDen × qP → qR (qDen × qP)} {out1 : qcO Int32} {f : Int32 → qTI → qTL → qTD → qTR → qcO Int32} (hu : cV b c L o1 l1 h1 pk1 B1 r1 I D R out1)
    (hok : ∀ q I1 D1 R1, r1 = .inr q → fX c I D R I1 D1 R1 → cD b c q.2 o1 (l1 ++ qs_sh l1.length q.1.2.2.2) (h1 + 1) (max pk1 (h1 + q.1.2.1)) I1 D1 R1 → cV b c L o l h pk B (g q) I1 D1 R1 (f (nI q.1.1) I1 L D1 R1))
    (herr : ∀ e k n' I1 D1 R1, eS c e n' I1 R1 → l1.length ≤ n' → n' ≤ B1 → eU c e n' K I1 L D1 R1 (f k I1 L D1 R1)) (hl : l.length ≤ l1.length) (hB : B1 + K ≤ B) : cV b c L o l h pk B (qs_b r1 g) I D R (qc_bd out1 f) := fun h9 => by
  obtain ⟨n1, n2⟩ := n9_of h9
  obtain ⟨k, I1, D1, R1, e1, f1, s1, s2⟩ := hu n1
  rw [e1, qc_bds]
  cases r1 with
  | inr q =>
    obtain ⟨z1, z2⟩ := s1 q rfl
    rw [z1]
    exact cV_fX f1 (hok q I1 D1 R1 rfl f1 z2) (n2 q rfl)
  | inl e =>
    obtain ⟨n', z1, z2, z3⟩ := s2 e rfl
    exact cV_fX f1 (cV_eU (herr e k n' I1 D1 R1 z1 z2 z3) (by omega) (by omega)) h9
/-- told at once -/
theorem cS_refuse (hT : cT b ln len c I R) (hD : cD b c st o l h pk I D R) (hc : c = 270 ∨ c = 273 ∨ c = 276) {k j : Nat} (hk : 1 ≤ k ∧ k ≤ 6) : ∃ I' R', fX9_refuse w I L D R (nI k) (nI j) = some ((), I', L, D, R') ∧ fX c I D R I' D R' ∧ eS c (k, j) l.length I' R' ∧ I' 267 6 = I 267 6 := by
  obtain ⟨⟨a1, a2, a3, a4, a5, a6⟩, d2, d3, d4⟩ := hD
  refine ⟨_, _, cx_refuse a3 _ _, ⟨fun x k h1 _ _ _ _ => by rw [qc_u_ne _ _ (Or.inl h1), qc_u_ne _ _ (Or.inl h1)], fun _ _ _ => rfl, fun x k h1 => qc_u_ne _ _ (by omega)⟩, ⟨⟨by rw [qc_u_ne _ _ (Or.inr (by decide)), qc_u_at], hk.1, hk.2, qc_u_at _ _ _ _, qc_u_at _ _ _ _⟩, ?_, ?_, ?_⟩, ?_⟩
  · rw [qc_u_ne _ _ (Or.inl (by decide))]; exact hT.2.1
  · intro q hq
    rw [qc_u_ne _ _ (by have := (qfr_268 q hq).1; omega)]
    exact hT.2.2.1 q hq
  · rw [qc_u_ne _ _ (Or.inl (by omega)), qc_u_ne _ _ (Or.inl (by omega))]; exact d4.2.1
  · rw [qc_u_ne _ _ (Or.inl (by decide)), qc_u_ne _ _ (Or.inl (by decide))]
theorem cU_take (hB : qt_B b len) (hT : cT b ln len c I R) (hc : c = 270 ∨ c = 273 ∨ c = 276) (hD : cD b c st o l h pk I D R) (hG : qs_G b len st) : cU b c L o (qs_adv b st) l h pk I D R (fX9_take w I L D R) := by
  obtain ⟨⟨a1, a2, a3, a4, a5, a6⟩, d2, ⟨d3, d3'⟩, d4⟩ := hD
  obtain ⟨p1, p2, p3, p4⟩ := qt_pos hB hG.1
  obtain ⟨I', D', R', e1, e2, e3, e4, e5, e6⟩ := cx_tk (w := w) (L := L) (D := D) (R := R) hB hT.1 a3 a2 (p3 hG.2.1).2
  have hf : fX c I D R I' D' R' := ⟨fun x k h1 _ _ _ _ => e2 x k h1, fun x h1 _ => funext fun k => e3 x k h1, e4⟩
  refine ⟨I', D', R', e1, hf, fun st' z => ?_, fun e z => ?_⟩
  · obtain ⟨z1, z2⟩ := qs_adv_of z
    subst z1
    refine ⟨e5 z2, by rw [e2 267 6 (by decide)]; exact d2, ⟨by rw [e2 267 5 (by decide)]; exact d3, fun i v hv => by rw [e3 279 i (by decide)]; exact d3' i v hv⟩, kC_co d4 (fun k _ _ => e2 c k (by omega)) (funext fun k => e2 _ k (by omega)) (funext fun k => e2 _ k (by omega))⟩
  · unfold qs_adv at z
    split at z
    · rename_i hz
      cases z
      exact ⟨e6 hz, (e4 267 4 (by decide)).trans hT.2.1, fX_FR hf hT.2.2.1, by rw [e2 c 2 (by omega)]; exact d4.2.1⟩
    · cases z
theorem qt_m_lt (b : Nat → Nat) (p : Nat) : qt_m b p < 62 ∨ qt_m b p = 63 := by
  unfold qt_m
  generalize qt_from b p = s
  by_cases c1 : b s = 256
  · rw [if_pos c1]; omega
  rw [if_neg c1]
  by_cases c2 : qt_le (b s) = true
  · rw [if_pos c2]
    have := (qt_wm_0 (qt_w b s)).2.2.2
    omega
  rw [if_neg c2]
  by_cases c3 : qt_fi (b s) = true
  · rw [if_pos c3]
    repeat' split
    all_goals omega
  rw [if_neg c3]
  by_cases c4 : b s = 36
  · rw [if_pos c4]
    split <;> omega
  rw [if_neg c4]
  rcases qt_sg_ok b s with z | z
  · exact Or.inr z
  · exact Or.inl z.1
theorem cD_l (hD : cD b c st o l h pk I D R) (hG : qs_G b len st) : qc_l62 (R 268 1) = true := by
  rw [hD.1.2.2.2.1]
  have := qt_m_lt b st.1
  have := hG.2.1
  exact Nat.ble_eq.mpr (by omega)
theorem cU_expect (hB : qt_B b len) (hT : cT b ln len c I R) (hc : c = 270 ∨ c = 273 ∨ c = 276) (hD : cD b c st o l h pk I D R) (hG : qs_G b len st) {m : Nat} (hm : m < 62) : cU b c L o (qs_ex b m st) l h pk I D R (fX2_expect w I L D R m) := by
  unfold fX2_expect fX2_expect_b15
  rw [show qc_l62 m = true from Nat.ble_eq.mpr hm, cD_l hD hG, qc_gdt, qc_gdt, hD.1.2.2.2.1]
  unfold qs_ex
  by_cases z : qt_m b st.1 = m
  · rw [if_pos z, if_pos z]
    obtain ⟨I', D', R', e1, e2⟩ := cU_take (w := w) (L := L) hB hT hc hD hG
    rw [e1, qc_bds]
    exact ⟨I', D', R', rfl, e2⟩
  · rw [if_neg z, if_neg z]
    unfold fX2_misplaced
    rw [hD.1.1]
    obtain ⟨I', R', e1, e2, e3, -⟩ := cS_refuse (w := w) (L := L) hT hD hc (k := 2) (j := qt_from b st.1) (by decide)
    have e1 : fX9_refuse w I L D R 2 (nI (qt_from b st.1)) = some ((), I', L, D, R') := e1
    rw [e1, qc_bds, qc_bds, cx_tk0 (eS_6 e3), qc_bds]
    exact ⟨I', D, R', rfl, e2, fun st' z => (by cases z), fun e z => by cases z; exact e3⟩
theorem cD_o (hD : cD b c st o l h pk I D R) (hc : c = 270 ∨ c = 273 ∨ c = 276) (o' : Nat) : cD b c st o' l h pk (qc_u I 267 6 (nI o')) D R := by
  obtain ⟨⟨a1, a2, a3, a4, a5, a6⟩, d2, ⟨d3, d3'⟩, d4⟩ := hD
  have n : ∀ k, qc_u I 267 6 (nI o') 268 k = I 268 k := fun k => qc_u_ne _ _ (Or.inl (by decide))
  refine ⟨⟨(n 2).trans a1, (n 3).trans a2, (n 6).trans a3, a4, fun z => (n 4).trans (a5 z), a6⟩, qc_u_at _ _ _ _, ⟨by rw [qc_u_ne _ _ (Or.inr (by decide))]; exact d3, d3'⟩, kC_co d4 (fun k _ _ => qc_u_ne _ _ (Or.inl (by omega))) (qc_u_off _ _ (by omega)) (qc_u_off _ _ (by omega))⟩
theorem cU_openOne (hT : cT b ln len c I R) (hc : c = 270 ∨ c = 273 ∨ c = 276) (hD : cD b c st o l h pk I D R) (ho : o ≤ 12) : cU b c L (o + 1) (qs_op1 b o st) l h pk I D R (fX2_openOne w I L D R) := by
  unfold fX2_openOne fX2_openOne_b24 qs_op1
  rw [hD.2.1]
  by_cases z : 12 ≤ o
  · rw [if_pos z, if_neg (fun y => by have := (qi_lt (b := 12) (by omega) (by decide)).mp y; omega), hD.1.1]
    obtain ⟨I', R', e1, e2, e3, -⟩ := cS_refuse (w := w) (L := L) hT hD hc (k := 3) (j := qt_from b st.1) (by decide)
    have e1 : fX9_refuse w I L D R 3 (nI (qt_from b st.1)) = some ((), I', L, D, R') := e1
    rw [e1, qc_bds]
    exact ⟨_, D, R', rfl, fX_tr e2 (fX_o c I' D R' _), fun st' z => (by cases z), fun e z => by cases z; exact eS_o e3 hc _⟩
  · rw [if_neg z, if_pos (show nI o < 12 from (qi_lt (b := 12) (by omega) (by decide)).mpr (by omega)), qi_s1]
    exact ⟨_, D, R, rfl, fX_o c I D R _, fun st' y => (by cases y; exact cD_o hD hc (o + 1)), fun e y => (by cases y)⟩
/-- kinds that fit, or not -/
theorem cV_fit {ok : Bool} {j : Nat} {r : qR (qDen × qP)} {f : Unit → qTI → qTL → qTD → qTR → qcO Int32} {x : Int32} (hT : cT b ln len c I R) (hc : c = 270 ∨ c = 273 ∨ c = 276) (hD : cD b c st o1 l1 h1 pk1 I D R) (hx : x = if ok = true then 1 else 0)
    (hok : ok = true → cV b c L o l h pk B r I D R (f () I L D R)) (herr : ∀ e I1 D1 R1, eS c e l1.length I1 R1 → eU c e l1.length K I1 L D1 R1 (f () I1 L D1 R1)) (hl : l.length ≤ l1.length) (hB : l1.length + K ≤ B) :
    cV b c L o l h pk B (qs_fit ok j r) I D R (qc_bd (fX2_fit w I L D R x (nI j)) f) := by
  unfold qs_fit fX2_fit
  cases ok with
  | true =>
    rw [if_pos rfl] at hx
    rw [hx, if_neg (show ¬ (1 : Int32) = 0 by decide), qc_bds, if_pos rfl]
    exact hok rfl
  | false =>
    rw [if_neg (by decide)] at hx
    obtain ⟨I', R', e1, e2, e3, -⟩ := cS_refuse (w := w) (L := L) hT hD hc (k := 4) (j := j) (by decide)
    have e1 : fX9_refuse w I L D R 4 (nI j) = some ((), I', L, D, R') := e1
    rw [hx, if_pos rfl, if_neg (by decide), e1, qc_bds, qc_bds]
    exact cV_fX e2 (cV_eU (herr _ I' D R' e3) hl hB)
theorem cV_some {q : qDen × qP} {k : Int32} (hk : k = nI q.1.1) (hD : cD b c q.2 o (l ++ qs_sh l.length q.1.2.2.2) (h + 1) (max pk (h + q.1.2.1)) I D R) : cV b c L o l h pk B (.inr q) I D R (some (k, I, L, D, R)) := fun _ => ⟨k, I, D, R, rfl, fX_rf _ _ _ _, fun q' z => (by cases z; exact ⟨hk, hD⟩), fun e z => (by cases z)⟩
theorem cD_k {l2 : List (Nat × Nat)} {h2 pk2 : Nat} {I' : qTI} (hD : cD b c st o l h pk I D R) (hc : c = 270 ∨ c = 273 ∨ c = 276) (hf : fC c I I') (hk : kC c l2 h2 pk2 I') : cD b c st o l2 h2 pk2 I' D R := by
  obtain ⟨⟨a1, a2, a3, a4, a5, a6⟩, d2, ⟨d3, d3'⟩, d4⟩ := hD
  have e1 : I' 268 = I 268 := hf 268 (by omega) (by omega) (by omega)
  have e2 : I' 267 = I 267 := hf 267 (by omega) (by omega) (by omega)
  unfold cD sX
  rw [e1, e2]
  exact ⟨⟨a1, a2, a3, a4, a5, a6⟩, d2, ⟨d3, d3'⟩, hk⟩
end
