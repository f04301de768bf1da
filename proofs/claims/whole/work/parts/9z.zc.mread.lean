/-! the reference reads a query -/
def xO (v : Int32) (o : Option qDen) (ds : List qDen) : Prop := match o with
  | none => v = -1
  | some d => ∃ x, v = nI x ∧ ds[x]? = some d
/-- the reference's own words of a query -/
def xF (x : qX) (ds : List qDen) (I : qTI) : Prop :=
  xO (I 291 57) x.1 ds ∧ xO (I 291 58) x.2.1 ds ∧ xO (I 291 59) x.2.2.1 ds ∧ (x.2.2.2.1 ≤ 2 ∧ I 291 60 = if x.2.2.2.1 = 0 then -1 else nI (x.2.2.2.1 - 1)) ∧
  (match x.2.2.2.2.1 with | none => I 291 61 = -1 | some v => I 291 61 = nI v ∧ v < 2147483648) ∧ (x.2.2.2.2.2.1 ≤ 5 ∧ I 291 62 = if x.2.2.2.2.2.1 = 5 then -1 else nI x.2.2.2.2.2.1) ∧ (match x.2.2.2.2.2.2 with | none => True | some c => I 291 63 = nI c ∧ c < 10)
def mN (b : Nat → Nat) (q : Nat) (I0 : qTI) (L0 : qTL) (D0 : qTD) (τ : Option (Nat × Nat)) (x : qX) (st : qP) (ds : List qDen) (I : qTI) (L : qTL) (D : qTD) : Prop :=
  ∃ I1 : qTI, (∀ a k, ¬ (a = 291 ∧ 57 ≤ k ∧ k ≤ 63) → I1 a k = I0 a k) ∧ mQ b q I1 L0 D0 τ st ds I L D ∧ (τ = none → xF x ds I)
section
variable {w : qcW} {I I0 : qTI} {L L0 : qTL} {D D0 : qTD} {R : qTR} {b ln : Nat → Nat} {len q n : Nat} {τ : Option (Nat × Nat)} {st : qP} {ds : List qDen} {x : qX}
/-- one of its words changes -/
theorem mN_s {τ : Option (Nat × Nat)} {x' : qX} (h : mN b q I0 L0 D0 τ x st ds I L D) {k : Nat} (hk : 57 ≤ k ∧ k ≤ 63) (v : Int32) (hx : τ = none → xF x' ds (qc_u I 291 k v)) : mN b q I0 L0 D0 τ x' st ds (qc_u I 291 k v) L D := by
  obtain ⟨I1, h1, ⟨o, h0, h2⟩, h3⟩ := h
  exact ⟨qc_u I1 291 k v, fun a j z => by rw [qc_u_ne _ _ (by omega)]; exact h1 a j z, ⟨o, h0, mB_s h2 hk v⟩, hx⟩
theorem mS_1 {I1 : qTI} (hS : mS b ln len q I0) (h : ∀ a k, ¬ (a = 291 ∧ 57 ≤ k ∧ k ≤ 63) → I1 a k = I0 a k) : mS b ln len q I1 := by
  obtain ⟨⟨s1, s2⟩, s3, s4, s5⟩ := hS
  refine ⟨⟨(h 291 8 (by omega)).trans s1, fun p hp => (h 297 p (by omega)).trans (s2 p hp)⟩, fun c hc => ?_, (h 291 40 (by omega)).trans s4, s5⟩
  rw [h 292 c (by omega)]
  rcases s3 c hc with z | ⟨i, z1, z2, z3, z4⟩
  · exact Or.inl z
  · exact Or.inr ⟨i, z1, z2, (h 293 i (by omega)).trans z3, z4⟩
theorem xO_up {v : Int32} {o : Option qDen} {t : List qDen} (h : xO v o ds) : xO v o (ds ++ t) := by
  cases o with
  | none => exact h
  | some d =>
    obtain ⟨x, h1, h2⟩ := h
    exact ⟨x, h1, ds_up h2⟩
theorem xF_up {t : List qDen} (h : xF x ds I) : xF x (ds ++ t) I := ⟨xO_up h.1, xO_up h.2.1, xO_up h.2.2.1, h.2.2.2⟩
theorem xF_co {I' : qTI} (h : xF x ds I) (e : ∀ k, 57 ≤ k → k ≤ 63 → I' 291 k = I 291 k) : xF x ds I' := by
  unfold xF at h ⊢
  rw [e 57 (by decide) (by decide), e 58 (by decide) (by decide), e 59 (by decide) (by decide), e 60 (by decide) (by decide), e 61 (by decide) (by decide), e 62 (by decide) (by decide), e 63 (by decide) (by decide)]
  exact h
/-- a fault was told -/
theorem mN_15e {e : Nat × Nat} (h : mN b q I0 L0 D0 (some e) x st ds I L D) : I 291 15 ≠ 0 := by
  obtain ⟨I1, h1, ⟨o, h0, h2⟩, h3⟩ := h
  exact mB_15e h2
theorem mN_tsE {e : Nat × Nat} (h : mN b q I0 L0 D0 (some e) x st ds I L D) : mTs w I L D R 63 := by
  obtain ⟨I1, h1, ⟨o, h0, h2⟩, h3⟩ := h
  exact mb_tsE h2
theorem mN_nextE {e : Nat × Nat} (h : mN b q I0 L0 D0 (some e) x st ds I L D) : fX12_next w I L D R = some ((), I, L, D, R) := by
  obtain ⟨I1, h1, ⟨o, h0, h2⟩, h3⟩ := h
  exact mb_nextE h2
theorem mN_failE {e : Nat × Nat} (h : mN b q I0 L0 D0 (some e) x st ds I L D) (y z : Int32) : fX12_fail w I L D R y z = some ((), I, L, D, R) := mx_fail0 (mN_15e h) _ _
theorem mN_15 (h : mN b q I0 L0 D0 none x st ds I L D) : I 291 15 = 0 ∧ I 291 10 = nI (qt_from b st.1) ∧ I 291 9 = nI (qt_kd (qt_m b st.1)) ∧ (qt_m b st.1 = 1 ∨ qt_m b st.1 = 3 → I 291 13 = nI (qt_n b st.1)) := by
  obtain ⟨I1, h1, ⟨o, h0, h2⟩, h3⟩ := h
  exact ⟨mB_15 h2, mB_10 h2, h2.2.1.2.2.2.1, h2.2.1.2.2.2.2.2.1⟩
theorem mN_ts (hb : qt_B b len) (hS : mS b ln len q I0) (h : mN b q I0 L0 D0 none x st ds I L D) (hG : st.1 ≤ len ∧ qt_m b st.1 ≠ 63) : mTs w I L D R (qt_m b st.1) := by
  obtain ⟨I1, h1, ⟨o, h0, h2⟩, h3⟩ := h
  exact mb_ts hb (mS_1 hS h1) h2 hG
theorem mN_fail (h : mN b q I0 L0 D0 none x st ds I L D) {k j : Nat} (hk : 1 ≤ k ∧ k ≤ 6) : ∃ I' : qTI, fX12_fail w I L D R (nI k) (nI j) = some ((), I', L, D, R) ∧ mN b q I0 L0 D0 (some (k, j)) x st ds I' L D := by
  obtain ⟨I1, h1, ⟨o, h0, h2⟩, h3⟩ := h
  obtain ⟨I', k1, k2⟩ := mb_fail (w := w) (R := R) h2 (k := k) (j := j) hk
  exact ⟨I', k1, I1, h1, ⟨o, fun z => (by cases z), k2⟩, fun z => (by cases z)⟩
theorem mN_next (hb : qt_B b len) (hS : mS b ln len q I0) (h : mN b q I0 L0 D0 none x st ds I L D) (hG : st.1 ≤ len ∧ qt_m b st.1 ≠ 63) : ∃ (I' : qTI) (L' : qTL) (D' : qTD), fX12_next w I L D R = some ((), I', L', D', R) ∧ (∀ st', qs_adv b st = .inr st' → mN b q I0 L0 D0 none x st' ds I' L' D') ∧ ∀ e, qs_adv b st = .inl e → mN b q I0 L0 D0 (some e) x (qt_to b st.1, st.2) ds I' L' D' := by
  obtain ⟨I1, h1, ⟨o, h0, h2⟩, h3⟩ := h
  obtain ⟨I', L', D', k1, k2, k3⟩ := mb_next (w := w) (R := R) hb (mS_1 hS h1) h2 hG
  refine ⟨I', L', D', k1, fun st' z => ⟨I1, h1, ⟨o, h0, k2 st' z⟩, fun _ => xF_co (h3 rfl) (fun k g1 g2 => ?_)⟩, fun e z => ⟨I1, h1, ⟨o, fun u => (by cases u), k3 e z⟩, fun u => (by cases u)⟩⟩
  rw [(k2 st' z).1.1 291 k (by decide) (fun u => by have := u.2; unfold mkL at this; simp only [List.mem_cons, List.not_mem_nil, or_false] at this; omega), h2.1.1 291 k (by decide) (fun u => by have := u.2; unfold mkL at this; simp only [List.mem_cons, List.not_mem_nil, or_false] at this; omega)]
/-- a sum, an or -/
theorem mN_x (hS : mS b ln len q I0) {r : qR (qDen × qP)} {out : qcO Int32} (h : mN b q I0 L0 D0 none x st ds I L D) (hv : ∀ I1, mS b ln len q I1 → mQ b q I1 L0 D0 none st ds I L D → mX b len q I1 L0 D0 R ds r out) :
    (∀ s, r = .inr s → ∃ (y : Nat) (t : List qDen) (I' : qTI) (L' : qTL) (D' : qTD), out = some (nI y, I', L', D', R) ∧ mN b q I0 L0 D0 none x s.2 (ds ++ t) I' L' D' ∧ (ds ++ t)[y]? = some s.1 ∧ (ds ++ t).length ≤ s.2.1 ∧ (I' 303 y = nI s.1.1 ∧ s.1.1 ≤ 4 ∧ y < 420 ∨ 420 < (ds ++ t).length)) ∧
    (∀ e, r = .inl e → ∃ (st' : qP) (ds' : List qDen) (I' : qTI) (L' : qTL) (D' : qTD), out = some (0, I', L', D', R) ∧ mN b q I0 L0 D0 (some e) x st' ds' I' L' D') := by
  obtain ⟨I1, h1, hq, h3⟩ := h
  have h2 := hq
  obtain ⟨a1, a2⟩ := hv I1 (mS_1 hS h1) hq
  obtain ⟨o, h0, hr⟩ := h2
  refine ⟨fun s z => ?_, fun e z => ?_⟩
  · obtain ⟨y, t, I', L', D', e1, ⟨o', g0, e2⟩, e3, e4⟩ := a1 s z
    refine ⟨y, t, I', L', D', e1, ⟨I1, h1, ⟨o', g0, e2⟩, fun _ => xF_co (xF_up (h3 rfl)) (fun k g1 g2 => ?_)⟩, e3, e4, ?_⟩
    · rw [e2.1.1 291 k (by decide) (fun u => by have := u.2; unfold mkL at this; simp only [List.mem_cons, List.not_mem_nil, or_false] at this; omega), hr.1.1 291 k (by decide) (fun u => by have := u.2; unfold mkL at this; simp only [List.mem_cons, List.not_mem_nil, or_false] at this; omega)]
    · obtain ⟨n1, n2, n3, n4, n5⟩ := mB_n e2 e3
      by_cases u : (ds ++ t).length ≤ 420
      · exact Or.inl ⟨n1, n3, by omega⟩
      · exact Or.inr (by omega)
  · obtain ⟨st', ds', I', L', D', e1, e2⟩ := a2 e z
    exact ⟨st', ds', I', L', D', e1, I1, h1, e2, fun u => (by cases u)⟩
end
