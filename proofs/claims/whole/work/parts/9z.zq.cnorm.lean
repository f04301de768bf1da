/-! the class reads a query while all is well -/
abbrev qZS : Type := Int32 × Int32 × Int32 × Int32 × Nat × Nat
def rZ (z : qZS) (I : qTI) (R : qTR) : Prop := I 267 9 = z.1 ∧ I 267 10 = z.2.1 ∧ I 267 11 = z.2.2.1 ∧ I 267 12 = z.2.2.2.1 ∧ R 267 7 = z.2.2.2.2.1 ∧ R 267 8 = z.2.2.2.2.2
def rG (b ln : Nat → Nat) (len : Nat) (st : qP) (K : qKs) (z : qZS) (I : qTI) (D : qTD) (R : qTR) : Prop := rN b ln len st K I D R ∧ rZ z I R ∧ qs_G b len st
/-- a step that the spec knows -/
def rU {α β : Type} (P : α → β → qTI → qTD → qTR → Prop) (E : Nat × Nat → qTI → qTR → Prop) (L : qTL) (r : qR α) (I : qTI) (D : qTD) (R : qTR) (out : qcO β) : Prop :=
  ∃ (v : β) (I' : qTI) (D' : qTD) (R' : qTR), out = some (v, I', L, D', R') ∧ rF I D R I' D' R' ∧ (∀ a, r = .inr a → P a v I' D' R') ∧ (∀ e, r = .inl e → E e I' R')
section
variable {w : qcW} {b ln : Nat → Nat} {len c B : Nat} {I : qTI} {L : qTL} {D : qTD} {R : qTR} {st : qP} {K : qKs} {z : qZS}
theorem rU_tr {α β : Type} {P : α → β → qTI → qTD → qTR → Prop} {E : Nat × Nat → qTI → qTR → Prop} {r : qR α} {out : qcO β} {I1 : qTI} {D1 : qTD} {R1 : qTR} (f : rF I D R I1 D1 R1) (h : rU P E L r I1 D1 R1 out) : rU P E L r I D R out := by
  obtain ⟨v, I', D', R', a1, a2, a3, a4⟩ := h
  exact ⟨v, I', D', R', a1, rF_tr f a2, a3, a4⟩
theorem rU_e {α β : Type} {P : α → β → qTI → qTD → qTR → Prop} {E : Nat × Nat → qTI → qTR → Prop} {e : Nat × Nat} {out : qcO β} (h : eO (E e) I L D R out) : rU P E L (.inl e) I D R out := by
  obtain ⟨v, I', D', R', a1, a2, a3⟩ := h
  exact ⟨v, I', D', R', a1, a2, fun a y => (by cases y), fun e' y => (by cases y; exact a3)⟩
theorem rU_some {α β : Type} {P : α → β → qTI → qTD → qTR → Prop} {E : Nat × Nat → qTI → qTR → Prop} {a : α} {v : β} (h : P a v I D R) : rU P E L (.inr a) I D R (some (v, I, L, D, R)) := ⟨v, I, D, R, rfl, rF_rf _ _ _, fun a' y => (by cases y; exact h), fun e' y => (by cases y)⟩
theorem rU_bd {α β γ δ : Type} {P : α → β → qTI → qTD → qTR → Prop} {E E2 : Nat × Nat → qTI → qTR → Prop} {Q : γ → δ → qTI → qTD → qTR → Prop} {r : qR α} {g : α → qR γ} {out : qcO β} {f : β → qTI → qTL → qTD → qTR → qcO δ} (h : rU P E L r I D R out)
    (hok : ∀ a v I D R, r = .inr a → P a v I D R → rU Q E2 L (g a) I D R (f v I L D R)) (herr : ∀ e v I D R, E e I R → eO (E2 e) I L D R (f v I L D R)) : rU Q E2 L (qs_b r g) I D R (qc_bd out f) := by
  obtain ⟨v, I1, D1, R1, a1, a2, a3, a4⟩ := h
  rw [a1, qc_bds]
  cases r with
  | inl e => exact rU_tr a2 (rU_e (herr e v I1 D1 R1 (a4 e rfl)))
  | inr a => exact rU_tr a2 (hok a v I1 D1 R1 rfl (a3 a rfl))
theorem rU_mono {α β : Type} {P P2 : α → β → qTI → qTD → qTR → Prop} {E E2 : Nat × Nat → qTI → qTR → Prop} {r : qR α} {out : qcO β} (h : rU P E L r I D R out) (hp : ∀ a v I D R, P a v I D R → P2 a v I D R) (he : ∀ e I R, E e I R → E2 e I R) : rU P2 E2 L r I D R out := by
  obtain ⟨v, I', D', R', a1, a2, a3, a4⟩ := h
  exact ⟨v, I', D', R', a1, a2, fun a y => hp _ _ _ _ _ (a3 a y), fun e y => he _ _ _ (a4 e y)⟩
theorem rZ_fX (h : rZ z I R) {I' : qTI} {D' : qTD} {R' : qTR} (hf : fX c I D R I' D' R') (hc : c = 270 ∨ c = 273 ∨ c = 276) : rZ z I' R' := by
  obtain ⟨h1, h2, h3, h4, h5, h6⟩ := h
  have o : ∀ k, 9 ≤ k → I' 267 k = I 267 k := fun k hk => hf.1 267 k (by decide) (by omega) (by omega) (by omega) (by omega)
  exact ⟨(o 9 (by decide)).trans h1, (o 10 (by decide)).trans h2, (o 11 (by decide)).trans h3, (o 12 (by decide)).trans h4, (hf.2.2 267 7 (by decide)).trans h5, (hf.2.2 267 8 (by decide)).trans h6⟩
theorem rZ_4 (h : rZ z I R) (v : Nat) : rZ z I (qc_u R 267 4 v) := by
  obtain ⟨h1, h2, h3, h4, h5, h6⟩ := h
  exact ⟨h1, h2, h3, h4, by rw [qc_u_ne _ _ (Or.inr (by decide))]; exact h5, by rw [qc_u_ne _ _ (Or.inr (by decide))]; exact h6⟩
/-- what a step at 268 keeps -/
theorem rG_268 {st' : qP} (h : rG b ln len st K z I D R) {I' : qTI} {D' : qTD} {R' : qTR} (h1 : ∀ a k, a ≠ 268 → I' a k = I a k) (h2 : ∀ a k, a ≠ 268 → D' a k = D a k) (h3 : ∀ a k, ¬ (a = 268 ∧ k = 1) → R' a k = R a k) (hs : sX b st'.1 I' D' R') (he : st'.2 = st.2) (hG : qs_G b len st') : rG b ln len st' K z I' D' R' := by
  obtain ⟨⟨a1, a2, a3, a4, a5, a6, a7⟩, ⟨z1, z2, z3, z4, z5, z6⟩, -⟩ := h
  refine ⟨⟨⟨(h1 265 1 (by decide)).trans a1.1, fun p hp => (h1 266 p (by decide)).trans (a1.2 p hp)⟩, fun cc hcc => ?_, fun q hq => (h3 _ _ (qfr_268 q hq).1).trans (a3 q hq), hs, (h1 267 6 (by decide)).trans a5, ⟨?_, fun i v hv => ?_⟩, fun c hc => ?_⟩, ⟨(h1 267 9 (by decide)).trans z1, (h1 267 10 (by decide)).trans z2, (h1 267 11 (by decide)).trans z3, (h1 267 12 (by decide)).trans z4, (h3 267 7 (by decide)).trans z5, (h3 267 8 (by decide)).trans z6⟩, hG⟩
  · rw [h1 258 cc (by decide)]
    rcases a2 cc hcc with y | ⟨i, y1, y2, y3, y4⟩
    · exact Or.inl y
    · exact Or.inr ⟨i, y1, y2, (h1 259 i (by decide)).trans y3, y4⟩
  · rw [he]; exact (h1 267 5 (by decide)).trans a6.1
  · rw [h2 279 i (by decide)]; exact a6.2 i v (by rw [he] at hv; exact hv)
  · exact kC_co (a7 c hc) (fun k _ _ => h1 c k (by omega)) (funext fun k => h1 _ k (by omega)) (funext fun k => h1 _ k (by omega))
theorem rF_268 {I' : qTI} {D' : qTD} {R' : qTR} (h1 : ∀ a k, a ≠ 268 → I' a k = I a k) (h2 : ∀ a k, a ≠ 268 → D' a k = D a k) (h3 : ∀ a k, ¬ (a = 268 ∧ k = 1) → R' a k = R a k) : rF I D R I' D' R' := ⟨fun x _ y _ => funext fun k => h1 x k y, fun x y _ => funext fun k => h2 x k y, fun x k _ y => h3 x k y⟩
theorem rE_268 (h : rN b ln len st K I D R) {I' : qTI} {R' : qTR} {e : Nat × Nat} (h1 : ∀ a k, a ≠ 268 → I' a k = I a k) (h3 : ∀ a k, ¬ (a = 268 ∧ k = 1) → R' a k = R a k) (hs : sE e I' R') : rE 5000 e I' R' := by
  refine ⟨hs, fun q hq => (h3 _ _ (qfr_268 q hq).1).trans (h.2.2.1 q hq), fun c hc => ?_⟩
  obtain ⟨n, y1, y2⟩ := rN_n h c hc
  exact ⟨n, y1, (h1 c 2 (by omega)).trans y2⟩
theorem r_take (hb : qt_B b len) (h : rG b ln len st K z I D R) (h0 : qt_m b st.1 ≠ 0) : rU (fun st' _ I D R => rG b ln len st' K z I D R) (rE 5000) L (qs_adv b st) I D R (fX9_take w I L D R) := by
  obtain ⟨⟨a1, a2, a3, a4, a5, a6, a7⟩, -, hG⟩ := id h
  obtain ⟨p1, p2, p3, p4⟩ := qt_pos hb hG.1
  obtain ⟨I', D', R', e1, e2, e3, e4, e5, e6⟩ := cx_tk (w := w) (L := L) (D := D) (R := R) hb a1 a4.2.2.1 a4.2.1 (p3 hG.2.1).2
  refine ⟨(), I', D', R', e1, rF_268 e2 e3 e4, fun st' y => ?_, fun e y => ?_⟩
  · obtain ⟨g1, g2, g3⟩ := qs_G_adv hb hG h0 y
    obtain ⟨y1, y2⟩ := qs_adv_of y
    refine rG_268 h e2 e3 e4 ?_ g3 g1
    rw [y1] at y2 ⊢
    exact e5 y2
  · unfold qs_adv at y
    split at y
    · rename_i hz
      cases y
      exact rE_268 h.1 e2 e4 (e6 hz)
    · cases y
theorem rG_m (h : rG b ln len st K z I D R) : R 268 1 = qt_m b st.1 ∧ qc_l62 (R 268 1) = true := by
  have h1 := h.1.2.2.2.1.2.2.2.1
  refine ⟨h1, ?_⟩
  rw [h1]
  have := qt_m_lt b st.1
  have := h.2.2.2.1
  exact Nat.ble_eq.mpr (by omega)
theorem r_took1 (hb : qt_B b len) (h : rG b ln len st K z I D R) {m : Nat} (hm : m < 62) (h0 : m ≠ 0) (hq : qt_m b st.1 = m) : rU (fun st' v I D R => v = true ∧ rG b ln len st' K z I D R) (rE 5000) L (qs_adv b st) I D R (fX2_took w I L D R m) := by
  unfold fX2_took
  rw [show qc_l62 m = true from Nat.ble_eq.mpr hm, qc_gdt, (rG_m h).2, qc_gdt, (rG_m h).1, if_pos hq]
  obtain ⟨v, I', D', R', a1, a2, a3, a4⟩ := r_take (w := w) (L := L) hb h (by omega)
  rw [a1, qc_bds]
  exact ⟨true, I', D', R', rfl, a2, fun st' y => ⟨rfl, a3 st' y⟩, a4⟩
theorem r_took0 (h : rG b ln len st K z I D R) {m : Nat} (hm : m < 62) (hq : qt_m b st.1 ≠ m) : fX2_took w I L D R m = some (false, I, L, D, R) := by
  unfold fX2_took
  rw [show qc_l62 m = true from Nat.ble_eq.mpr hm, qc_gdt, (rG_m h).2, qc_gdt, (rG_m h).1, if_neg hq]
theorem r_refuse (h : rG b ln len st K z I D R) {k j : Nat} (hk : 1 ≤ k ∧ k ≤ 6) : ∃ (I' : qTI) (R' : qTR), fX9_refuse w I L D R (nI k) (nI j) = some ((), I', L, D, R') ∧ rF I D R I' D R' ∧ rE 5000 (k, j) I' R' ∧ (∀ x, x ≠ 268 → I' x = I x) ∧ (∀ k, R' 267 k = R 267 k) := by
  have h6 := h.1.2.2.2.1.2.2.1
  have h1 : ∀ a k', a ≠ 268 → qc_u (qc_u I 268 6 (nI k)) 268 7 (nI j) a k' = I a k' := fun a k' ha => by rw [qc_u_ne _ _ (Or.inl ha), qc_u_ne _ _ (Or.inl ha)]
  have h3 : ∀ a k', ¬ (a = 268 ∧ k' = 1) → qc_u R 268 1 4 a k' = R a k' := fun a k' ha => qc_u_ne _ _ (by omega)
  refine ⟨_, _, cx_refuse h6 _ _, rF_268 h1 (fun _ _ _ => rfl) h3, rE_268 h.1 h1 h3 ⟨?_, hk.1, hk.2, qc_u_at _ _ _ _, qc_u_at _ _ _ _⟩, fun x hx => funext fun k' => h1 x k' hx, fun k' => h3 267 k' (by omega)⟩
  rw [qc_u_ne _ _ (Or.inr (by decide)), qc_u_at]
theorem r_misplaced (h : rG b ln len st K z I D R) : ∃ (I' : qTI) (R' : qTR), fX2_misplaced w I L D R = some ((), I', L, D, R') ∧ rF I D R I' D R' ∧ rE 5000 (2, qt_from b st.1) I' R' ∧ (∀ x, x ≠ 268 → I' x = I x) ∧ (∀ k, R' 267 k = R 267 k) := by
  obtain ⟨I', R', a1, a2⟩ := r_refuse (w := w) (L := L) h (k := 2) (j := qt_from b st.1) (by decide)
  refine ⟨I', R', ?_, a2⟩
  have a1 : fX9_refuse w I L D R 2 (nI (qt_from b st.1)) = some ((), I', L, D, R') := a1
  unfold fX2_misplaced
  rw [h.1.2.2.2.1.1, a1, qc_bds]
theorem r_expect (hb : qt_B b len) (h : rG b ln len st K z I D R) {m : Nat} (hm : m < 62) (h0 : m ≠ 0) : rU (fun st' _ I D R => rG b ln len st' K z I D R) (rE 5000) L (qs_ex b m st) I D R (fX2_expect w I L D R m) := by
  unfold fX2_expect fX2_expect_b15 qs_ex
  rw [show qc_l62 m = true from Nat.ble_eq.mpr hm, qc_gdt, (rG_m h).2, qc_gdt, (rG_m h).1]
  by_cases y : qt_m b st.1 = m
  · rw [if_pos y, if_pos y]
    obtain ⟨v, I', D', R', a1, a2⟩ := r_take (w := w) (L := L) hb h (by omega)
    rw [a1, qc_bds]
    exact ⟨(), I', D', R', rfl, a2⟩
  · rw [if_neg y, if_neg y]
    obtain ⟨I', R', a1, a2, a3, -⟩ := r_misplaced (w := w) (L := L) h
    rw [a1, qc_bds, cx_tk0 (rE_6 a3), qc_bds]
    exact ⟨(), I', D, R', rfl, a2, fun st' y => (by cases y), fun e y => by cases y; exact a3⟩
/-- kinds that fit, or not -/
theorem rU_fit {α β : Type} {P : α → β → qTI → qTD → qTR → Prop} {E : Nat × Nat → qTI → qTR → Prop} {ok : Bool} {j : Nat} {r : qR α} {f : Unit → qTI → qTL → qTD → qTR → qcO β} {x : Int32} (h : rG b ln len st K z I D R) (hx : x = if ok = true then 1 else 0)
    (hok : ok = true → rU P E L r I D R (f () I L D R)) (herr : ∀ e I1 D1 R1, rE 5000 e I1 R1 → (∀ x, x ≠ 268 → I1 x = I x) → (∀ k, R1 267 k = R 267 k) → eO (E e) I1 L D1 R1 (f () I1 L D1 R1)) :
    rU P E L (qs_fit ok j r) I D R (qc_bd (fX2_fit w I L D R x (nI j)) f) := by
  unfold qs_fit fX2_fit
  cases ok with
  | true =>
    rw [if_pos rfl] at hx
    rw [hx, if_neg (show ¬ (1 : Int32) = 0 by decide), qc_bds, if_pos rfl]
    exact hok rfl
  | false =>
    rw [if_neg (by decide)] at hx
    obtain ⟨I', R', e1, e2, e3, e4, e5⟩ := r_refuse (w := w) (L := L) h (k := 4) (j := j) (by decide)
    have e1 : fX9_refuse w I L D R 4 (nI j) = some ((), I', L, D, R') := e1
    rw [hx, if_pos rfl, if_neg (by decide), e1, qc_bds, qc_bds]
    exact rU_tr e2 (rU_e (herr _ I' D R' e3 e4 e5))
/-- a sum into part c -/
theorem rU_sum (hW : qc_WF w) (hb : qt_B b len) (hln : ∀ c, c < 10 → ln c ≤ 8) (hc : c = 270 ∨ c = 273 ∨ c = 276) (h : rG b ln len st K z I D R) {l : List (Nat × Nat)} {h1 pk : Nat} (hK : K c = (l, h1, pk)) (hl : l.length ≤ 20) (hh : h1 ≤ pk) (hp : pk ≤ 10) {tag x : Nat} (ht : (tag = 0 ∧ x = 0) ∨ (tag = 2 ∧ x = 1)) :
    rU (fun q k I D R => k = nI q.1.1 ∧ rG b ln len q.2 (kU K c (l ++ qs_sh l.length q.1.2.2.2, h1 + 1, max pk (h1 + q.1.2.1))) z I D R ∧ R 267 4 = c ∧ qs_Q b len 0 st q) (eP c 5000) L (qs_p b ln qN tag x 0 0 (d_lf 0 []) st) I D R (fX2_rc w 200 tag 0 I L D (qc_u R 267 4 c)) := by
  obtain ⟨k, I', D', R', a1, a2, a3, a4⟩ := r_sum (w := w) (L := L) hW hb hln hc h.1 h.2.2 hK hl hh hp ht
  refine ⟨k, I', D', R', a1, rF_tr (rF_c c) (rF_X hc a2), fun q y => ?_, fun e y => a4 e y⟩
  obtain ⟨b1, b2, b3, b4⟩ := a3 q y
  exact ⟨b1, ⟨b2, rZ_fX (rZ_4 h.2.1 c) a2 hc, b4.1⟩, b3, b4⟩
/-- a step within one part's code -/
theorem rG_C (hc : c = 270 ∨ c = 273 ∨ c = 276) (h : rG b ln len st K z I D R) {I' : qTI} (hf : fC c I I') {t : List (Nat × Nat) × Nat × Nat} (hk : kC c t.1 t.2.1 t.2.2 I') : rG b ln len st (kU K c t) z I' D R ∧ rF I D R I' D R := by
  obtain ⟨⟨a1, a2, a3, a4, a5, a6, a7⟩, ⟨z1, z2, z3, z4, z5, z6⟩, hG⟩ := h
  have o : ∀ x, x ≤ 269 → I' x = I x := fun x hx => hf x (by omega) (by omega) (by omega)
  refine ⟨⟨⟨⟨by rw [o 265 (by decide)]; exact a1.1, fun p hp => by rw [o 266 (by decide)]; exact a1.2 p hp⟩, fun cc hcc => ?_, a3, ?_, by rw [o 267 (by decide)]; exact a5, ⟨by rw [o 267 (by decide)]; exact a6.1, a6.2⟩, fun c' hc' => ?_⟩, ⟨by rw [o 267 (by decide)]; exact z1, by rw [o 267 (by decide)]; exact z2, by rw [o 267 (by decide)]; exact z3, by rw [o 267 (by decide)]; exact z4, z5, z6⟩, hG⟩, fun x y1 y2 y3 => hf x (by omega) (by omega) (by omega), fun _ _ _ => rfl, fun _ _ _ _ => rfl⟩
  · rw [o 258 (by decide), o 259 (by decide)]
    exact a2 cc hcc
  · unfold sX
    rw [o 268 (by decide)]
    exact a4
  · by_cases y : c' = c
    · rw [y, kU_at]; exact hk
    · rw [kU_ne _ _ y]
      exact kC_co (a7 c' hc') (fun k _ _ => by rw [hf c' (by omega) (by omega) (by omega)]) (hf (c' + 1) (by omega) (by omega) (by omega)) (hf (c' + 2) (by omega) (by omega) (by omega))
theorem kU_kU (K : qKs) (c : Nat) (s t : List (Nat × Nat) × Nat × Nat) : kU (kU K c s) c t = kU K c t := by
  funext c'
  unfold kU
  split <;> rfl
end
