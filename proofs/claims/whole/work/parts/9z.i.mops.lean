/-! the reference's small steps -/
section
variable {w : qcW} {I I0 : qTI} {L L0 : qTL} {D D0 : qTD} {R : qTR} {b ln : Nat → Nat} {len q o : Nat} {τ : Option (Nat × Nat)} {st : qP} {J : qJs} {P : List Nat} {F : qFs} {ds : List qDen}
theorem mr_lay (h : mR b q I0 L0 D0 τ st o J P F ds I L D) {x : Nat} (hx : x < 420) (hP : P.length < 420) : ∃ I' : qTI, fX12_lay w I L D R (nI x) = some ((), I', L, D, R) ∧ mR b q I0 L0 D0 τ st o J (x :: P) F ds I' L D := by
  have e := h.2.2.2.2.1
  refine ⟨_, ?_, mR_f (mR_a h (a := 309) (k := P.length) (by decide) (nI x) (by omega) (by omega) (fun _ => Nat.le_refl _) (by omega)) (k := 32) (by decide) (nI (P.length + 1)) (P' := x :: P) rfl (Or.inr ⟨by decide, rfl⟩) (Or.inr ⟨by decide, rfl⟩) (Or.inr ⟨by decide, rfl⟩) (Or.inl ⟨rfl, rfl, ⟨qc_u_at _ _ _ _, hx⟩, pK_co (fun i hi => qc_u_ne _ _ (Or.inr (by omega))) e.2⟩) (Or.inr ⟨by decide, rfl⟩)⟩
  unfold fX12_lay
  rw [e.1, qi_inbN hP (by decide), qc_gdt, nI_clamp (by omega), qc_u_ne _ _ (Or.inl (by decide)), e.1, qi_s1]
theorem mr_taken {x : Nat} (h : mR b q I0 L0 D0 τ st o J (x :: P) F ds I L D) (hP : P.length < 420) : fX12_taken w I L D R = some (nI x, qc_u I 291 32 (nI P.length), L, D, R) ∧ mR b q I0 L0 D0 τ st o J P F ds (qc_u I 291 32 (nI P.length)) L D ∧ x < 420 := by
  obtain ⟨e1, ⟨e2, e3⟩, e4⟩ := h.2.2.2.2.1
  refine ⟨?_, mR_f h (k := 32) (by decide) (nI P.length) rfl (Or.inr ⟨by decide, rfl⟩) (Or.inr ⟨by decide, rfl⟩) (Or.inr ⟨by decide, rfl⟩) (Or.inl ⟨rfl, rfl, e4⟩) (Or.inr ⟨by decide, rfl⟩), e3⟩
  unfold fX12_taken
  rw [e1, List.length_cons, show nI (P.length + 1) - 1 = nI P.length from qi_sub (a := P.length + 1) (b := 1) (by omega), qc_u_at, qi_inbN hP (by decide), qc_gdt, nI_clamp (by omega), qc_u_ne _ _ (Or.inl (by decide)), e2]
theorem mr_frame (h : mR b q I0 L0 D0 τ st o J P F ds I L D) {s a : Nat} (hs : s ≤ 5) (hJ : J.length < 1000) (hF : F.length < 40) (at_ v : Int32) : ∃ I' : qTI, fX12_frame w I L D R (nI s) at_ (nI a) v = some ((), I', L, D, R) ∧ mR b q I0 L0 D0 τ st o J P ((s, J.length, at_, a, v) :: F) ds I' L D := by
  have e := h.2.2.2.2.2.1
  have e28 := h.2.2.2.1.1
  refine ⟨_, ?_, mR_f (mR_a (mR_a (mR_a (mR_a (mR_a h (a := 310) (k := F.length) (by decide) (nI s) (by omega) (by omega) (by omega) (fun _ => Nat.le_refl _)) (a := 311) (k := F.length) (by decide) (nI J.length) (by omega) (by omega) (by omega) (fun _ => Nat.le_refl _)) (a := 312) (k := F.length) (by decide) at_ (by omega) (by omega) (by omega) (fun _ => Nat.le_refl _)) (a := 313) (k := F.length) (by decide) (nI a) (by omega) (by omega) (by omega) (fun _ => Nat.le_refl _)) (a := 314) (k := F.length) (by decide) v (by omega) (by omega) (by omega) (fun _ => Nat.le_refl _)) (k := 34) (by decide) (nI (F.length + 1)) (F' := (s, J.length, at_, a, v) :: F) rfl (Or.inr ⟨by decide, rfl⟩) (Or.inr ⟨by decide, rfl⟩) (Or.inr ⟨by decide, rfl⟩) (Or.inr ⟨by decide, rfl⟩) (Or.inl ⟨rfl, rfl, ⟨?_, ?_, ?_, ?_, ?_, hs, hJ⟩, ?_⟩)⟩
  · unfold fX12_frame
    simp only [qc_u_off _ _ (show (291 : Nat) ≠ 310 by decide), qc_u_off _ _ (show (291 : Nat) ≠ 311 by decide), qc_u_off _ _ (show (291 : Nat) ≠ 312 by decide), qc_u_off _ _ (show (291 : Nat) ≠ 313 by decide), qc_u_off _ _ (show (291 : Nat) ≠ 314 by decide), e.1, e28, qi_inbN hF (by decide : 40 < 2 ^ 31), qc_gdt, nI_clamp (show F.length < 2 ^ 31 by omega), qi_s1]
  · simp only [qc_u_off _ _ (show (310 : Nat) ≠ 311 by decide), qc_u_off _ _ (show (310 : Nat) ≠ 312 by decide), qc_u_off _ _ (show (310 : Nat) ≠ 313 by decide), qc_u_off _ _ (show (310 : Nat) ≠ 314 by decide), qc_u_at]
  · simp only [qc_u_off _ _ (show (311 : Nat) ≠ 312 by decide), qc_u_off _ _ (show (311 : Nat) ≠ 313 by decide), qc_u_off _ _ (show (311 : Nat) ≠ 314 by decide), qc_u_at]
  · simp only [qc_u_off _ _ (show (312 : Nat) ≠ 313 by decide), qc_u_off _ _ (show (312 : Nat) ≠ 314 by decide), qc_u_at]
  · simp only [qc_u_off _ _ (show (313 : Nat) ≠ 314 by decide), qc_u_at]
  · exact qc_u_at _ _ _ _
  · refine fK_co (fun i hi => ?_) e.2
    have n : ∀ (G : qTI) (a c : Nat) (v : Int32), qc_u G a F.length v c i = G c i := fun G a c v => qc_u_ne _ _ (Or.inr (by omega))
    simp only [n, and_self]
theorem mr_joint (h : mR b q I0 L0 D0 τ st o J P F ds I L D) {s p : Nat} (hs : s ≤ 9) (hJ : J.length < 420) : ∃ I' : qTI, fX12_joint w I L D R (nI s) (nI p) = some ((), I', L, D, R) ∧ mR b q I0 L0 D0 τ st o ((s, p, I 291 10) :: J) P F ds I' L D := by
  have e := h.2.2.2.1
  refine ⟨_, ?_, mR_f (mR_a (mR_a (mR_a h (a := 306) (k := J.length) (by decide) (nI s) (by omega) (fun _ => Nat.le_refl _) (by omega) (by omega)) (a := 307) (k := J.length) (by decide) (nI p) (by omega) (fun _ => Nat.le_refl _) (by omega) (by omega)) (a := 308) (k := J.length) (by decide) (I 291 10) (by omega) (fun _ => Nat.le_refl _) (by omega) (by omega)) (k := 28) (by decide) (nI (J.length + 1)) (J' := (s, p, I 291 10) :: J) rfl (Or.inr ⟨by decide, rfl⟩) (Or.inr ⟨by decide, rfl⟩) (Or.inl ⟨rfl, rfl, ⟨?_, ?_, ?_, hs⟩, ?_⟩) (Or.inr ⟨by decide, rfl⟩) (Or.inr ⟨by decide, rfl⟩)⟩
  · unfold fX12_joint
    simp only [qc_u_off _ _ (show (291 : Nat) ≠ 306 by decide), qc_u_off _ _ (show (291 : Nat) ≠ 307 by decide), qc_u_off _ _ (show (291 : Nat) ≠ 308 by decide), e.1, qi_inbN hJ (by decide : 420 < 2 ^ 31), qc_gdt, nI_clamp (show J.length < 2 ^ 31 by omega), qi_s1]
  · simp only [qc_u_off _ _ (show (306 : Nat) ≠ 307 by decide), qc_u_off _ _ (show (306 : Nat) ≠ 308 by decide), qc_u_at]
  · simp only [qc_u_off _ _ (show (307 : Nat) ≠ 308 by decide), qc_u_at]
  · exact qc_u_at _ _ _ _
  · refine jK_co (fun i hi => ?_) e.2
    have n : ∀ (G : qTI) (a c : Nat) (v : Int32), qc_u G a J.length v c i = G c i := fun G a c v => qc_u_ne _ _ (Or.inr (by omega))
    simp only [n, and_self]
theorem mR_o (h : mR b q I0 L0 D0 τ st o J P F ds I L D) (o' : Nat) : mR b q I0 L0 D0 τ st o' J P F ds (qc_u I 291 25 (nI o')) L D := mR_f h (k := 25) (by decide) (nI o') rfl (Or.inl ⟨rfl, rfl⟩) (Or.inr ⟨by decide, rfl⟩) (Or.inr ⟨by decide, rfl⟩) (Or.inr ⟨by decide, rfl⟩) (Or.inr ⟨by decide, rfl⟩)
/-- one less is open -/
theorem mR_c (h : mR b q I0 L0 D0 τ st (o + 1) J P F ds I L D) : mR b q I0 L0 D0 τ st o J P F ds (qc_u I 291 25 (I 291 25 - 1)) L D := by
  rw [h.2.2.1.1, show nI (o + 1) - 1 = nI o from qi_sub (a := o + 1) (b := 1) (by omega)]
  exact mR_o h o
/-- a frame goes -/
theorem mR_d {f : Nat × Nat × Int32 × Nat × Int32} (h : mR b q I0 L0 D0 τ st o J P (f :: F) ds I L D) : mR b q I0 L0 D0 τ st o J P F ds (qc_u I 291 34 (I 291 34 - 1)) L D := by
  rw [h.2.2.2.2.2.1.1, List.length_cons, show nI (F.length + 1) - 1 = nI F.length from qi_sub (a := F.length + 1) (b := 1) (by omega)]
  exact mR_f h (k := 34) (by decide) (nI F.length) rfl (Or.inr ⟨by decide, rfl⟩) (Or.inr ⟨by decide, rfl⟩) (Or.inr ⟨by decide, rfl⟩) (Or.inr ⟨by decide, rfl⟩) (Or.inl ⟨rfl, rfl, h.2.2.2.2.2.1.2.2⟩)
/-- a joint goes -/
theorem mR_j {j : Nat × Nat × Int32} (h : mR b q I0 L0 D0 τ st o (j :: J) P F ds I L D) : mR b q I0 L0 D0 τ st o J P F ds (qc_u I 291 28 (nI J.length)) L D := mR_f h (k := 28) (by decide) (nI J.length) rfl (Or.inr ⟨by decide, rfl⟩) (Or.inr ⟨by decide, rfl⟩) (Or.inl ⟨rfl, rfl, h.2.2.2.1.2.2⟩) (Or.inr ⟨by decide, rfl⟩) (Or.inr ⟨by decide, rfl⟩)
/-- a fault is told -/
theorem mR_e (h : mR b q I0 L0 D0 none st o J P F ds I L D) {k j : Nat} (hk : 1 ≤ k ∧ k ≤ 6) : mR b q I0 L0 D0 (some (k, j)) st o J P F ds (qc_u (qc_u I 291 15 (nI k)) 291 16 (nI j)) L D := by
  obtain ⟨⟨a1, a2, a3⟩, t, ⟨b1, b2, b3⟩, ⟨c1, c2⟩, ⟨d1, d2⟩, ⟨e1, e2⟩, f1, f2⟩ := h
  have n : ∀ j', j' ≠ 15 → j' ≠ 16 → qc_u (qc_u I 291 15 (nI k)) 291 16 (nI j) 291 j' = I 291 j' := fun j' h1 h2 => by rw [qc_u_ne _ _ (Or.inr h2), qc_u_ne _ _ (Or.inr h1)]
  have off : ∀ a, a ≠ 291 → qc_u (qc_u I 291 15 (nI k)) 291 16 (nI j) a = I a := fun a ha => by rw [qc_u_off _ _ ha, qc_u_off _ _ ha]
  refine ⟨⟨mF_u (mF_u a1 (by decide) _) (by decide) _, a2, a3⟩, ⟨by rw [qc_u_ne _ _ (Or.inr (by decide)), qc_u_at], hk.1, hk.2, qc_u_at _ _ _ _⟩, ⟨(n 25 (by decide) (by decide)).trans b1, (n 26 (by decide) (by decide)).trans b2, b3⟩, ⟨(n 28 (by decide) (by decide)).trans c1, ?_⟩, ⟨(n 32 (by decide) (by decide)).trans d1, ?_⟩, ⟨(n 34 (by decide) (by decide)).trans e1, ?_⟩, (n 17 (by decide) (by decide)).trans f1, fun x d hx => nN_co (fun a h1 h2 => by rw [off a (by omega)]) (f2 x d hx)⟩
  · rw [off 306 (by decide), off 307 (by decide), off 308 (by decide)]; exact c2
  · rw [off 309 (by decide)]; exact d2
  · rw [off 310 (by decide), off 311 (by decide), off 312 (by decide), off 313 (by decide), off 314 (by decide)]; exact e2
theorem mR_15 (h : mR b q I0 L0 D0 none st o J P F ds I L D) : I 291 15 = 0 := h.2.1.2.2.1
theorem mR_10 (h : mR b q I0 L0 D0 none st o J P F ds I L D) : I 291 10 = nI (qt_from b st.1) := h.2.1.1
theorem mR_15e {e : Nat × Nat} (h : mR b q I0 L0 D0 (some e) st o J P F ds I L D) : I 291 15 ≠ 0 := sF_0 h.2.1
theorem mr_fail (h : mR b q I0 L0 D0 none st o J P F ds I L D) {k j : Nat} (hk : 1 ≤ k ∧ k ≤ 6) : ∃ I' : qTI, fX12_fail w I L D R (nI k) (nI j) = some ((), I', L, D, R) ∧ mR b q I0 L0 D0 (some (k, j)) st o J P F ds I' L D := ⟨_, mx_fail (mR_15 h) _ _, mR_e h hk⟩
theorem mr_failE {e : Nat × Nat} (h : mR b q I0 L0 D0 (some e) st o J P F ds I L D) (x y : Int32) : fX12_fail w I L D R x y = some ((), I, L, D, R) := mx_fail0 (mR_15e h) _ _
theorem mr_nextE {e : Nat × Nat} (h : mR b q I0 L0 D0 (some e) st o J P F ds I L D) : fX12_next w I L D R = some ((), I, L, D, R) := mx_tk0 h.2.1
theorem mr_tp (hS : mS b ln len q I0) (h : mR b q I0 L0 D0 τ st o J P F ds I L D) : tpM b len I := mF_tp hS h.1.1
theorem mr_ts (hb : qt_B b len) (hS : mS b ln len q I0) (h : mR b q I0 L0 D0 none st o J P F ds I L D) (hG : st.1 ≤ len ∧ qt_m b st.1 ≠ 63) : mTs w I L D R (qt_m b st.1) := mTs_N hb (mr_tp hS h) hG.1 h.2.1 hG.2
theorem mr_tsE {e : Nat × Nat} (h : mR b q I0 L0 D0 (some e) st o J P F ds I L D) : mTs w I L D R 63 := mTs_F h.2.1
theorem frM_mF {I' : qTI} (h : mF I0 I) (g : frM I I') : mF I0 I' := fun a k h1 h2 => (g a k (fun z => h2 ⟨z.1, by rcases z.2 with y | y | y | y | y | y <;> (rw [y]; decide)⟩)).trans (h a k h1 h2)
theorem mr_next (hb : qt_B b len) (hS : mS b ln len q I0) (h : mR b q I0 L0 D0 none st o J P F ds I L D) (hG : st.1 ≤ len ∧ qt_m b st.1 ≠ 63) : ∃ (I' : qTI) (L' : qTL) (D' : qTD), fX12_next w I L D R = some ((), I', L', D', R) ∧ (∀ st', qs_adv b st = .inr st' → mR b q I0 L0 D0 none st' o J P F ds I' L' D') ∧ ∀ e, qs_adv b st = .inl e → mR b q I0 L0 D0 (some e) st o J P F ds I' L' D' := by
  obtain ⟨p1, p2, p3, p4⟩ := qt_pos hb hG.1
  obtain ⟨I', L', D', k1, k2, k3, k4, k5, k6⟩ := mx_tk (w := w) (L := L) (D := D) (R := R) hb (mr_tp hS h) (mR_15 h) h.2.1.2.1 (p3 hG.2).2
  obtain ⟨⟨a1, a2, a3⟩, t, ⟨b1, b2, b3⟩, ⟨c1, c2⟩, ⟨d1, d2⟩, ⟨e1, e2⟩, f1, f2⟩ := h
  have off : ∀ a, a ≠ 291 → I' a = I a := fun a ha => funext fun k => k2 a k (fun z => ha z.1)
  have n : ∀ j, ¬ (j = 9 ∨ j = 10 ∨ j = 11 ∨ j = 13 ∨ j = 15 ∨ j = 16) → I' 291 j = I 291 j := fun j hj => k2 291 j (fun z => hj z.2)
  have all : ∀ (τ' : Option (Nat × Nat)) (p : Nat), mTok b τ' p I' L' D' → mR b q I0 L0 D0 τ' (p, st.2) o J P F ds I' L' D' := fun τ' p ht => by
    refine ⟨⟨frM_mF a1 k2, fun a k z => (k3 a k z).trans (a2 a k z), fun a k z y => (k4 a k z).trans (a3 a k z y)⟩, ht, ⟨(n 25 (by decide)).trans b1, (n 26 (by decide)).trans b2, fun i v hv => (k4 305 _ (fun z => absurd z.1 (by decide))).trans (b3 i v hv)⟩, ⟨(n 28 (by decide)).trans c1, ?_⟩, ⟨(n 32 (by decide)).trans d1, ?_⟩, ⟨(n 34 (by decide)).trans e1, ?_⟩, (n 17 (by decide)).trans f1, fun x d hx => nN_co (fun a h1 h2 => by rw [off a (by omega)]) (f2 x d hx)⟩
    · rw [off 306 (by decide), off 307 (by decide), off 308 (by decide)]; exact c2
    · rw [off 309 (by decide)]; exact d2
    · rw [off 310 (by decide), off 311 (by decide), off 312 (by decide), off 313 (by decide), off 314 (by decide)]; exact e2
  refine ⟨I', L', D', k1, fun st' z => ?_, fun e z => ?_⟩
  · obtain ⟨z1, z2⟩ := qs_adv_of z
    subst z1
    exact all none _ (k5 z2)
  · unfold qs_adv at z
    split at z
    · rename_i hz
      cases z
      exact all (some _) _ (k6 hz)
    · cases z
theorem mr_opens (h : mR b q I0 L0 D0 none st o J P F ds I L D) (ho : o ≤ 12) : ∃ I' : qTI, fX12_opens w I L D R = some ((), I', L, D, R) ∧ (∀ st', qs_op1 b o st = .inr st' → st' = st ∧ mR b q I0 L0 D0 none st (o + 1) J P F ds I' L D) ∧ ∀ e, qs_op1 b o st = .inl e → mR b q I0 L0 D0 (some e) st (o + 1) J P F ds I' L D := by
  unfold fX12_opens fX12_opens_b25 qs_op1
  have e12 : nI o = 12 ↔ o = 12 := qi_nI_inj' (j := 12) (by omega) (by decide)
  rw [if_pos (mR_15 h), h.2.2.1.1]
  by_cases z : o = 12
  · rw [if_pos (e12.mpr z), if_pos (by omega), mR_10 h, show (3 : Int32) = nI 3 from rfl]
    obtain ⟨I', k1, k2⟩ := mr_fail (w := w) (R := R) h (k := 3) (j := qt_from b st.1) (by decide)
    rw [k1, qc_bds, k2.2.2.1.1, qi_s1]
    exact ⟨_, rfl, fun st' y => (by cases y), fun e y => by cases y; exact mR_o k2 (o + 1)⟩
  · rw [if_neg (fun y => z (e12.mp y)), if_neg (by omega), qi_s1]
    exact ⟨_, rfl, fun st' y => by cases y; exact ⟨rfl, mR_o h (o + 1)⟩, fun e y => (by cases y)⟩
theorem mr_opensE {e : Nat × Nat} (h : mR b q I0 L0 D0 (some e) st o J P F ds I L D) : ∃ I' : qTI, fX12_opens w I L D R = some ((), I', L, D, R) ∧ mR b q I0 L0 D0 (some e) st (o + 1) J P F ds I' L D := by
  unfold fX12_opens fX12_opens_b25
  rw [if_neg (mR_15e h), h.2.2.1.1, qi_s1]
  exact ⟨_, rfl, mR_o h (o + 1)⟩
theorem mr_needs4 (h : mR b q I0 L0 D0 none st o J P F ds I L D) {ok : Bool} {x : Int32} (hx : x = if ok = true then 1 else 0) {j : Nat} : ∃ I' : qTI, fX12_needs4 w I L D R x (nI j) = some ((), I', L, D, R) ∧ (ok = true → I' = I) ∧ (ok = false → mR b q I0 L0 D0 (some (4, j)) st o J P F ds I' L D) := by
  unfold fX12_needs4
  rw [if_pos (mR_15 h), hx]
  cases ok with
  | true => exact ⟨I, by rw [if_pos rfl, if_neg (by decide)], fun _ => rfl, fun z => (by cases z)⟩
  | false =>
    obtain ⟨I', k1, k2⟩ := mr_fail (w := w) (R := R) h (k := 4) (j := j) (by decide)
    rw [if_neg (show ¬ false = true by decide), if_pos rfl, show (4 : Int32) = nI 4 from rfl, k1, qc_bds]
    exact ⟨I', rfl, fun z => (by cases z), fun _ => k2⟩
theorem mr_needs4E {e : Nat × Nat} (h : mR b q I0 L0 D0 (some e) st o J P F ds I L D) (x y : Int32) : fX12_needs4 w I L D R x y = some ((), I, L, D, R) := by
  unfold fX12_needs4
  rw [if_neg (mR_15e h)]
theorem mr_nodeE {e : Nat × Nat} (h : mR b q I0 L0 D0 (some e) st o J P F ds I L D) (x1 x2 x3 x4 x5 x6 : Int32) : fX12_node w I L D R x1 x2 x3 x4 x5 x6 = some (0, I, L, D, R) := by
  unfold fX12_node
  have h2 := h.2.1
  rw [h2.1, if_neg (fun y => by have := (qi_le (b := 0) (by have := h2.2.2.1; omega) (by decide)).mp y; have := h2.2.1; omega)]
theorem mr_node (h : mR b q I0 L0 D0 none st o J P F ds I L D) {d : qDen} {x1 x2 x3 x4 x5 x6 : Int32} (hd : ds.length < 420) (hn : ∀ I' : qTI, I' 304 = I 304 → fX12_needOf w I' L D R x1 x2 x3 x4 = some (nI d.2.1, I', L, D, R))
    (hf : ∀ T : qTI, T 298 ds.length = x1 → T 299 ds.length = x2 → T 300 ds.length = x3 → T 301 ds.length = x4 → T 302 ds.length = x5 → T 303 ds.length = x6 → T 304 ds.length = nI d.2.1 → nN T (ds ++ [d]) ds.length d) :
    ∃ I' : qTI, fX12_node w I L D R x1 x2 x3 x4 x5 x6 = some (nI ds.length, I', L, D, R) ∧ mR b q I0 L0 D0 none st o J P F (ds ++ [d]) I' L D := by
  have e17 := h.2.2.2.2.2.2.1
  obtain ⟨G, hG⟩ : ∃ G, G = qc_u (qc_u (qc_u (qc_u (qc_u (qc_u I 298 ds.length x1) 299 ds.length x2) 300 ds.length x3) 301 ds.length x4) 302 ds.length x5) 303 ds.length x6 := ⟨_, rfl⟩
  have g304 : G 304 = I 304 := by
    rw [hG]
    simp only [qc_u_off _ _ (show (304 : Nat) ≠ 303 by decide), qc_u_off _ _ (show (304 : Nat) ≠ 302 by decide), qc_u_off _ _ (show (304 : Nat) ≠ 301 by decide), qc_u_off _ _ (show (304 : Nat) ≠ 300 by decide), qc_u_off _ _ (show (304 : Nat) ≠ 299 by decide), qc_u_off _ _ (show (304 : Nat) ≠ 298 by decide)]
  have hA := mR_a (mR_a (mR_a (mR_a (mR_a (mR_a (mR_a h (a := 298) (k := ds.length) (by decide) x1 (fun _ => Nat.le_refl _) (by omega) (by omega) (by omega)) (a := 299) (k := ds.length) (by decide) x2 (fun _ => Nat.le_refl _) (by omega) (by omega) (by omega)) (a := 300) (k := ds.length) (by decide) x3 (fun _ => Nat.le_refl _) (by omega) (by omega) (by omega)) (a := 301) (k := ds.length) (by decide) x4 (fun _ => Nat.le_refl _) (by omega) (by omega) (by omega)) (a := 302) (k := ds.length) (by decide) x5 (fun _ => Nat.le_refl _) (by omega) (by omega) (by omega)) (a := 303) (k := ds.length) (by decide) x6 (fun _ => Nat.le_refl _) (by omega) (by omega) (by omega)) (a := 304) (k := ds.length) (by decide) (nI d.2.1) (fun _ => Nat.le_refl _) (by omega) (by omega) (by omega)
  rw [← hG] at hA
  refine ⟨qc_u (qc_u G 304 ds.length (nI d.2.1)) 291 17 (nI (ds.length + 1)), ?_, ?_⟩
  · unfold fX12_node
    rw [if_pos (by rw [mR_15 h]; decide)]
    simp only [qc_u_off _ _ (show (291 : Nat) ≠ 298 by decide), qc_u_off _ _ (show (291 : Nat) ≠ 299 by decide), qc_u_off _ _ (show (291 : Nat) ≠ 300 by decide), qc_u_off _ _ (show (291 : Nat) ≠ 301 by decide), qc_u_off _ _ (show (291 : Nat) ≠ 302 by decide), qc_u_off _ _ (show (291 : Nat) ≠ 303 by decide), e17, qi_inbN hd (by decide : 420 < 2 ^ 31), qc_gdt, nI_clamp (show ds.length < 2 ^ 31 by omega)]
    rw [← hG, hn G g304, qc_bds]
    have e1 : G 291 17 = nI ds.length := by
      rw [hG]
      simp only [qc_u_off _ _ (show (291 : Nat) ≠ 298 by decide), qc_u_off _ _ (show (291 : Nat) ≠ 299 by decide), qc_u_off _ _ (show (291 : Nat) ≠ 300 by decide), qc_u_off _ _ (show (291 : Nat) ≠ 301 by decide), qc_u_off _ _ (show (291 : Nat) ≠ 302 by decide), qc_u_off _ _ (show (291 : Nat) ≠ 303 by decide), e17]
    simp only [e1, qi_inbN hd (by decide : 420 < 2 ^ 31), qc_gdt, nI_clamp (show ds.length < 2 ^ 31 by omega), qc_u_off _ _ (show (291 : Nat) ≠ 304 by decide), qi_s1, qc_u_at]
    rw [show nI (ds.length + 1) - 1 = nI ds.length from qi_sub (a := ds.length + 1) (b := 1) (by omega)]
  · obtain ⟨⟨a1, a2, a3⟩, t, ⟨b1, b2, b3⟩, ⟨c1, c2⟩, ⟨d1, d2⟩, ⟨e1, e2⟩, f1, f2⟩ := hA
    generalize hK : qc_u G 304 ds.length (nI d.2.1) = K at a1 t b1 b2 c1 c2 d1 d2 e1 e2 f1 f2
    have n : ∀ j, j ≠ 17 → qc_u K 291 17 (nI (ds.length + 1)) 291 j = K 291 j := fun j hj => qc_u_ne _ _ (Or.inr hj)
    have off : ∀ a, a ≠ 291 → qc_u K 291 17 (nI (ds.length + 1)) a = K a := fun a ha => qc_u_off _ _ ha
    refine ⟨⟨mF_u a1 (by decide) _, a2, a3⟩, mTok_co t (fun j hj => n j (by omega)) rfl, ⟨(n 25 (by decide)).trans b1, (n 26 (by decide)).trans b2, b3⟩, ⟨(n 28 (by decide)).trans c1, ?_⟩, ⟨(n 32 (by decide)).trans d1, ?_⟩, ⟨(n 34 (by decide)).trans e1, ?_⟩, ?_, fun x e hx => ?_⟩
    · rw [off 306 (by decide), off 307 (by decide), off 308 (by decide)]; exact c2
    · rw [off 309 (by decide)]; exact d2
    · rw [off 310 (by decide), off 311 (by decide), off 312 (by decide), off 313 (by decide), off 314 (by decide)]; exact e2
    · rw [qc_u_at, List.length_append]; rfl
    · refine nN_co (T := K) (fun a h1 h2 => by rw [off a (by omega)]) ?_
      by_cases z : x < ds.length
      · rw [List.getElem?_append_left z] at hx
        exact nN_up (f2 x e hx)
      · have hx2 : x = ds.length := by
          have := (List.getElem?_eq_some_iff.mp hx).1
          rw [List.length_append, List.length_singleton] at this
          omega
        subst hx2
        rw [List.getElem?_append_right (Nat.le_refl _), Nat.sub_self] at hx
        cases hx
        subst hK
        subst hG
        refine hf _ ?_ ?_ ?_ ?_ ?_ ?_ ?_
        all_goals simp [qc_u]
end
