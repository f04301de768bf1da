/-! the reference reads a query: its parts -/
def mO (b : Nat → Nat) (len q : Nat) (I0 : qTI) (L0 : qTL) (D0 : qTD) (R : qTR) (r : qR qXS) (out : qcO Unit) : Prop :=
  (∀ s, r = .inr s → ∃ (ds : List qDen) (I : qTI) (L : qTL) (D : qTD), out = some ((), I, L, D, R) ∧ mN b q I0 L0 D0 none s.1 s.2 ds I L D ∧ qs_G b len s.2 ∧ ds.length ≤ s.2.1) ∧
  (∀ e, r = .inl e → ∃ (x : qX) (st : qP) (ds : List qDen) (I : qTI) (L : qTL) (D : qTD), out = some ((), I, L, D, R) ∧ mN b q I0 L0 D0 (some e) x st ds I L D)
/-- enough fuel for all texts -/
def qN : Nat := 2100
section
variable {w : qcW} {I I0 : qTI} {L L0 : qTL} {D D0 : qTD} {R : qTR} {b ln : Nat → Nat} {len q n : Nat} {τ : Option (Nat × Nat)} {st : qP} {ds : List qDen} {x : qX}
theorem qn_0 (hb : qt_B b len) (hln : ∀ c, c < 10 → ln c ≤ 8) (hG : qs_G b len st) : qs_n9 (qs_p b ln qN 0 0 0 0 (d_lf 0 []) st) := qs_fuel hb hln _ _ _ _ _ _ _ hG (by omega) (by omega) (by omega) (by omega) (by have := hb.1; have e0 : qs_rk 0 = 4 := rfl; have e2 : qs_rk 2 = 3 := rfl; unfold qs_mu qN; omega)
theorem qn_2 (hb : qt_B b len) (hln : ∀ c, c < 10 → ln c ≤ 8) (hG : qs_G b len st) : qs_n9 (qs_p b ln qN 2 1 0 0 (d_lf 0 []) st) := qs_fuel hb hln _ _ _ _ _ _ _ hG (by omega) (by omega) (by omega) (by omega) (by have := hb.1; have e0 : qs_rk 0 = 4 := rfl; have e2 : qs_rk 2 = 3 := rfl; unfold qs_mu qN; omega)
theorem good0 (hb : qt_B b len) (hln : ∀ c, c < 10 → ln c ≤ 8) (hG : qs_G b len st) {s : qDen × qP} (h : qs_p b ln qN 0 0 0 0 (d_lf 0 []) st = .inr s) : qs_Q b len 0 st s := (qs_good hb hln qN 0 0 0 0 _ st s h hG).1 (by decide) (by decide) ⟨fun u => (by omega), fun u => (by omega)⟩
theorem good2 (hb : qt_B b len) (hln : ∀ c, c < 10 → ln c ≤ 8) (hG : qs_G b len st) {s : qDen × qP} (h : qs_p b ln qN 2 1 0 0 (d_lf 0 []) st = .inr s) : qs_Q b len 0 st s := (qs_good hb hln qN 2 1 0 0 _ st s h hG).1 (by decide) (by decide) ⟨fun _ => (by omega), fun u => (by omega)⟩
theorem mO_b {r : qR qXS} {g : qXS → qR qXS} {out : qcO Unit} {f : Unit → qTI → qTL → qTD → qTR → qcO Unit} (h : mO b len q I0 L0 D0 R r out)
    (hok : ∀ s ds I L D, r = .inr s → mN b q I0 L0 D0 none s.1 s.2 ds I L D → qs_G b len s.2 → ds.length ≤ s.2.1 → mO b len q I0 L0 D0 R (g s) (f () I L D R))
    (herr : ∀ e x st ds I L D, mN b q I0 L0 D0 (some e) x st ds I L D → ∃ (x' : qX) (st' : qP) (ds' : List qDen) (I' : qTI) (L' : qTL) (D' : qTD), f () I L D R = some ((), I', L', D', R) ∧ mN b q I0 L0 D0 (some e) x' st' ds' I' L' D') : mO b len q I0 L0 D0 R (qs_b r g) (qc_bd out f) := by
  cases r with
  | inr s =>
    obtain ⟨ds, I, L, D, e1, e2, e3, e4⟩ := h.1 s rfl
    rw [e1, qc_bds]
    exact hok s ds I L D rfl e2 e3 e4
  | inl e =>
    obtain ⟨x, st, ds, I, L, D, e1, e2⟩ := h.2 e rfl
    rw [e1, qc_bds]
    refine ⟨fun s z => (by cases z), fun e' z => ?_⟩
    cases z
    exact herr _ x st ds I L D e2
theorem mO_e {e : Nat × Nat} {out : qcO Unit} (h : mN b q I0 L0 D0 (some e) x st ds I L D) (ho : out = some ((), I, L, D, R)) : mO b len q I0 L0 D0 R (.inl e) out := ⟨fun s z => (by cases z), fun e' z => by cases z; exact ⟨x, st, ds, I, L, D, ho, h⟩⟩
theorem mO_s {s : qXS} {out : qcO Unit} (h : mN b q I0 L0 D0 none s.1 s.2 ds I L D) (hG : qs_G b len s.2) (hd : ds.length ≤ s.2.1) (ho : out = some ((), I, L, D, R)) : mO b len q I0 L0 D0 R (.inr s) out := ⟨fun s' z => by cases z; exact ⟨ds, I, L, D, ho, h, hG, hd⟩, fun e z => (by cases z)⟩
theorem mN_u {e : Nat × Nat} (h : mN b q I0 L0 D0 (some e) x st ds I L D) {k : Nat} (hk : 57 ≤ k ∧ k ≤ 63) (v : Int32) : mN b q I0 L0 D0 (some e) x st ds (qc_u I 291 k v) L D := mN_s h hk v (fun z => by cases z)
theorem u15 (k : Nat) (hk : 57 ≤ k ∧ k ≤ 63) (v : Int32) : ∀ j, j < 57 → qc_u I 291 k v 291 j = I 291 j := fun j hj => qc_u_ne _ _ (Or.inr (by omega))
/-- where .. -/
theorem m_cond (hb : qt_B b len) (hS : mS b ln len q I0) (hln : ∀ c, c < 10 → ln c ≤ 8) (h : mN b q I0 L0 D0 none x st ds I L D) (hG : qs_G b len st) (hd : ds.length ≤ st.1) : mO b len q I0 L0 D0 R (q_cond b ln qN x st) (fX12_readWhere w I L D R) := by
  have hv := mN_x (R := R) hS h (fun I1 h1 h2 => mx_or (w := w) hb h1 hln h2 hG hd (qn_2 hb hln hG))
  unfold fX12_readWhere q_cond
  cases hr : qs_p b ln qN 2 1 0 0 (d_lf 0 []) st with
  | inl e =>
    obtain ⟨st', ds', I', L', D', e1, e2⟩ := hv.2 e hr
    have e3 := mN_u e2 (k := 57) (by decide) 0
    rw [e1, qc_bds, if_neg (mN_15e e3)]
    exact mO_e e3 rfl
  | inr r =>
    obtain ⟨y, t, I', L', D', e1, e2, e3, e4, e5⟩ := hv.1 r hr
    obtain ⟨q1, q2, q3, q4⟩ := good2 hb hln hG hr
    have hl := hb.1
    have hq1 := q1.1
    obtain ⟨k1, k2, k3⟩ := e5.resolve_right (by omega)
    obtain ⟨xw, x2⟩ := x
    have e6 : mN b q I0 L0 D0 none (some r.1, x2) r.2 (ds ++ t) (qc_u I' 291 57 (nI y)) L' D' := mN_s e2 (by decide) (nI y) (fun _ => by
      obtain ⟨I1, z1, z2, z3⟩ := e2
      have hx := z3 rfl
      have n : ∀ k, k ≠ 57 → qc_u I' 291 57 (nI y) 291 k = I' 291 k := fun k hk => qc_u_ne _ _ (Or.inr hk)
      unfold xF at hx ⊢
      rw [qc_u_at, n 58 (by decide), n 59 (by decide), n 60 (by decide), n 61 (by decide), n 62 (by decide), n 63 (by decide)]
      exact ⟨⟨y, rfl, e3⟩, hx.2⟩)
    have z0 : nI r.1.1 = 0 ↔ r.1.1 = 0 := kz k2
    rw [e1, qc_bds, if_pos (mN_15 e6).1, qc_u_at, qi_inbN k3 (by decide), qc_gdt, nI_clamp (by omega), qc_u_off _ _ (by decide), k1]
    show mO b len q I0 L0 D0 R (qs_fit _ _ _) _
    unfold qs_fit
    by_cases z : r.1.1 = 0
    · rw [if_pos (z0.mpr z), if_pos (qs_beq.mpr z)]
      exact mO_s e6 q1 e4 rfl
    · rw [if_neg (fun u => z (z0.mp u)), if_neg (fun u => z (qs_beq.mp u)), (mN_15 e6).2.1]
      obtain ⟨I5, f1, f2⟩ := mN_fail (w := w) (R := R) e6 (k := 4) (j := qt_from b r.2.1) (by decide)
      have f1 : fX12_fail w (qc_u I' 291 57 (nI y)) L' D' R 4 (nI (qt_from b r.2.1)) = some ((), I5, L', D', R) := f1
      rw [f1, qc_bds]
      exact mO_e f2 rfl
/-- a number's sum: what follows -/
theorem m_main (hb : qt_B b len) (hS : mS b ln len q I0) (hln : ∀ c, c < 10 → ln c ≤ 8) (h : mN b q I0 L0 D0 none x st ds I L D) (hG : qs_G b len st) (hd : ds.length ≤ st.1) {g : qTI → qTL → qTD → qTR → qcO Unit} {gs : qXS → qR qXS}
    (hok : ∀ s ds I L D, q_main b ln qN x st = .inr s → mN b q I0 L0 D0 none s.1 s.2 ds I L D → qs_G b len s.2 → ds.length ≤ s.2.1 → mO b len q I0 L0 D0 R (gs s) (g I L D R))
    (herr : ∀ e x st ds I L D, mN b q I0 L0 D0 (some e) x st ds I L D → ∃ (x' : qX) (st' : qP) (ds' : List qDen) (I' : qTI) (L' : qTL) (D' : qTD), g I L D R = some ((), I', L', D', R) ∧ mN b q I0 L0 D0 (some e) x' st' ds' I' L' D') :
    mO b len q I0 L0 D0 R (qs_b (q_main b ln qN x st) gs) (qc_bd (fX12_sum w I L D R) fun r15 I15 L15 D15 R15 => if ((qc_u I15 291 58 r15) 291 15) = 0 then (qc_gd (qc_inb ((qc_u I15 291 58 r15) 291 58) 420) <| if ((qc_u I15 291 58 r15) 303 (Int32.toNatClampNeg ((qc_u I15 291 58 r15) 291 58))) = 0 then (qc_bd (fX12_fail w (qc_u I15 291 58 r15) L15 D15 R15 (4 : Int32) ((qc_u I15 291 58 r15) 291 10)) fun r19 I19 L19 D19 R19 => g I19 L19 D19 R19) else (g (qc_u I15 291 58 r15) L15 D15 R15)) else (g (qc_u I15 291 58 r15) L15 D15 R15)) := by
  have hv := mN_x (R := R) hS h (fun I1 h1 h2 => mx_sum (w := w) hb h1 hln h2 hG hd (qn_0 hb hln hG))
  have fin : ∀ {e x st ds I L D}, mN b q I0 L0 D0 (some e) x st ds I L D → mO b len q I0 L0 D0 R (qs_b (.inl e) gs) (g I L D R) := fun {e x st ds I L D} hn => by
    obtain ⟨x', st', ds', I', L', D', e1, e2⟩ := herr e x st ds I L D hn
    exact mO_e e2 e1
  unfold q_main at hok ⊢
  cases hr : qs_p b ln qN 0 0 0 0 (d_lf 0 []) st with
  | inl e =>
    obtain ⟨st', ds', I', L', D', e1, e2⟩ := hv.2 e hr
    have e3 := mN_u e2 (k := 58) (by decide) 0
    rw [e1, qc_bds, if_neg (mN_15e e3)]
    exact fin e3
  | inr r =>
    rw [hr] at hok
    obtain ⟨y, t, I', L', D', e1, e2, e3, e4, e5⟩ := hv.1 r hr
    obtain ⟨q1, q2, q3, q4⟩ := good0 hb hln hG hr
    have hl := hb.1
    have hq1 := q1.1
    obtain ⟨k1, k2, k3⟩ := e5.resolve_right (by omega)
    obtain ⟨xw, xm, x2⟩ := x
    have e6 : mN b q I0 L0 D0 none (xw, some r.1, x2) r.2 (ds ++ t) (qc_u I' 291 58 (nI y)) L' D' := mN_s e2 (by decide) (nI y) (fun _ => by
      obtain ⟨I1, z1, z2, z3⟩ := e2
      have hx := z3 rfl
      have n : ∀ k, k ≠ 58 → qc_u I' 291 58 (nI y) 291 k = I' 291 k := fun k hk => qc_u_ne _ _ (Or.inr hk)
      unfold xF at hx ⊢
      rw [qc_u_at, n 57 (by decide), n 59 (by decide), n 60 (by decide), n 61 (by decide), n 62 (by decide), n 63 (by decide)]
      exact ⟨hx.1, ⟨y, rfl, e3⟩, hx.2.2⟩)
    have z0 : nI r.1.1 = 0 ↔ r.1.1 = 0 := kz k2
    rw [e1, qc_bds, if_pos (mN_15 e6).1, qc_u_at, qi_inbN k3 (by decide), qc_gdt, nI_clamp (by omega), qc_u_off _ _ (by decide), k1]
    change mO b len q I0 L0 D0 R (qs_b (qs_fit _ _ _) gs) _
    change ∀ s ds I L D, qs_fit _ _ _ = .inr s → _ at hok
    unfold qs_fit at hok ⊢
    by_cases z : r.1.1 = 0
    · rw [if_pos (z0.mpr z), if_neg (show ¬ (!(Nat.beq r.1.1 0)) = true by rw [z]; decide), (mN_15 e6).2.1]
      obtain ⟨I5, f1, f2⟩ := mN_fail (w := w) (R := R) e6 (k := 4) (j := qt_from b r.2.1) (by decide)
      have f1 : fX12_fail w (qc_u I' 291 58 (nI y)) L' D' R 4 (nI (qt_from b r.2.1)) = some ((), I5, L', D', R) := f1
      rw [f1, qc_bds]
      exact fin f2
    · have hz : (!(Nat.beq r.1.1 0)) = true := by rw [show Nat.beq r.1.1 0 = false from Bool.eq_false_iff.mpr (fun u => z (qs_beq.mp u))]; rfl
      rw [if_neg (fun u => z (z0.mp u)), if_pos hz]
      rw [if_pos hz] at hok
      exact hok _ _ _ _ _ rfl e6 q1 e4
end
