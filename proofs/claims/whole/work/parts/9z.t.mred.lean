/-! the reference's sums are the spec's -/
section
variable {w : qcW} {I I0 : qTI} {L L0 : qTL} {D D0 : qTD} {R : qTR} {b ln : Nat → Nat} {len q o N n : Nat} {τ : Option (Nat × Nat)} {st : qP} {J : qJs} {P : List Nat} {F : qFs} {ds : List qDen} {x1 x3 : Int32} {f : Nat × Nat × Int32 × Nat × Int32}
/-- all joints are joined -/
theorem K_m1 (hb : qt_B b len) (hS : mS b ln len q I0) {n' : Nat} (h : mR b q I0 L0 D0 none st o J P F ds I L D) (hG : st.1 ≤ len ∧ qt_m b st.1 ≠ 63) (hen : qs_en b 1 st) (hF : F.length ≤ 40) (hJ : J.length ≤ 420) (hF0 : ∃ f F', F = f :: F' ∧ f.2.1 = J.length) : K_m w b R x1 1 N (n' + 1) I L D st = if qt_m b st.1 = 59 ∧ (1 < F.length ∨ x1 ≠ 0) then fX12_expression_b250 w (fX12_expression_l27 w N) I L D R x1 else fX12_expression_b306 w (fX12_expression_l27 w N) I L D R x1 := by
  have hts := mr_ts (w := w) (R := R) hb hS h hG
  have e : K_m w b R x1 1 N (n' + 1) I L D st = mMd w (fX12_expression_l27 w N) (n' + 1) I L D R x1 := by
    unfold K_m
    by_cases z : qs_sv (qt_m b st.1) = 4
    · rw [if_pos ⟨by decide, z⟩]
    · rw [if_neg (fun u => z u.2)]
      refine mo_mid h hts ?_
      rcases hen with u | u
      · omega
      · exact absurd u.1 z
  obtain ⟨f, F', h1, h2⟩ := hF0
  rw [e, mm_fin hb hS h hG hF hJ ⟨f, F', h1, Or.inl h2⟩]
/-- tag 0 -/
theorem mA_sum (hb : qt_B b len) (hS : mS b ln len q I0) (hln : ∀ c, c < 10 → ln c ≤ 8) (hA : mA w b ln len q I0 L0 D0 R x1 n) (h : mR b q I0 L0 D0 none st o J P F ds I L D) (hG : mG b len st o J P F ds N) (hF0 : ∃ f F', F = f :: F' ∧ f.2.1 = J.length) (hx : 1 < F.length ∨ x1 ≠ 0) : mV b len q I0 L0 D0 R (K_e w R x1) o J P F ds (qs_p b ln (n + 1) 0 0 0 o (d_lf 0 []) st) (fX12_expression_l27 w N (I, L, D, R, x1, 1, 1)) := by
  change mV b len q I0 L0 D0 R (K_e w R x1) o J P F ds (qs_sum b (qs_p b ln n) o st) _
  unfold qs_sum
  have hF1 := hF0
  obtain ⟨f, F', hF, hf⟩ := hF0
  have hv := hA.2.1 1 o st J P F ds N I L D h hG (by decide) (by decide) ⟨f, F', hF, Or.inl hf⟩
  rw [if_pos (show 1 ≤ 3 by decide)] at hv
  refine mV_b hv (fun s N2 n2 y2 t I4 L4 D4 hr m4 hy4 hG4 hn4 => ?_)
  obtain ⟨d1, d2, d3, d4⟩ := (qs_good hb hln n 2 1 0 o _ st s hr hG.1).1 (by decide) (by decide) ⟨fun _ => (by omega), fun u => (by omega)⟩
  have hen := (qs_ended b ln n).1 _ _ _ _ _ hr
  obtain ⟨w1, w2, w3, w4, w5, w6⟩ := mG_le hb hG4
  obtain ⟨n2, rfl⟩ : ∃ k, n2 = k + 1 := ⟨n2 - 1, by omega⟩
  rw [K_m1 hb hS m4 (mG_st hG4) hen (by omega) (by omega) hF1]
  by_cases z : qt_m b s.2.1 = 59
  · rw [if_pos z, if_pos ⟨z, hx⟩]
    exact mV_ds (hA.2.2.2.2.2.2.1 o s.2 J P F (ds ++ t) N2 I4 L4 D4 y2 s.1 m4 hG4 hy4 d2 (by omega) hF1 z)
  · rw [if_neg z, if_neg (fun u => z u.1)]
    exact mV_s (n := qcF) (N := N2) m4 hy4 hG4 (by unfold qcF; omega) rfl
theorem mV_9 {K : qKc} {j : Nat} {out : qcO Int32} : mV b len q I0 L0 D0 R K o J P F ds (.inl (9, j)) out := fun h9 => absurd rfl (h9 j)
theorem mA_all (hb : qt_B b len) (hS : mS b ln len q I0) (hln : ∀ c, c < 10 → ln c ≤ 8) : ∀ n, mA w b ln len q I0 L0 D0 R x1 n
  | 0 => ⟨fun _ _ _ _ _ _ _ _ _ _ _ _ _ _ => mV_9, fun _ _ _ _ _ _ _ _ _ _ _ _ _ _ _ _ => mV_9, fun _ _ _ _ _ _ _ _ _ _ _ _ _ _ _ => mV_9, fun _ _ _ _ _ _ _ _ _ _ _ _ _ _ _ => mV_9, fun _ _ _ _ _ _ _ _ _ _ _ _ _ _ => mV_9, fun _ _ _ _ _ _ _ _ _ _ _ _ _ _ _ => mV_9, fun _ _ _ _ _ _ _ _ _ _ _ _ _ _ _ _ _ _ _ => mV_9, fun _ _ _ _ _ _ _ _ _ _ _ _ _ _ _ _ _ _ _ _ _ _ _ _ _ _ => mV_9⟩
  | n + 1 => by
    have hA := mA_all hb hS hln n
    exact ⟨fun _ _ _ _ _ _ _ _ _ _ h hG hF hx => mA_sum hb hS hln hA h hG hF hx, fun _ _ _ _ _ _ _ _ _ _ _ h hG h1 h9 ht => mA_joined hb hS hln hA h hG h1 h9 ht, fun _ _ _ _ _ _ _ _ _ _ _ h hG h19 hF => mA_signed hb hS hln hA h hG h19 hF, fun _ _ _ _ _ _ _ _ _ _ _ h hG h19 h49 => mA_part hb hS hln hA h hG h19 h49 (fun _ _ _ _ _ _ _ _ _ _ _ _ _ _ h hG hn hf hx st0 h1 h2 => me_paren hb hS h hG hn hf hx st0 h1 h2), fun _ _ _ _ _ _ _ _ _ _ _ h hG h3 => mA_cell hb hS hln hA h hG h3, fun _ _ _ _ _ _ _ _ _ _ _ h hG h19 hno => mA_func hb hS hln hA h hG h19 hno, fun _ _ _ _ _ _ _ _ _ _ _ _ h hG hx hd hz hF h59 => mA_choice hb hS hln hA h hG hx hd hz hF h59, fun _ _ _ _ _ _ _ _ _ _ _ _ _ _ _ h hG hn hx hd hz h1 h9 ht hi h5 => mA_loop hb hS hln hA h hG hn hx hd hz h1 h9 ht hi h5⟩
/-- the reference between two sums: nothing of joints, parts, frames -/
def mB (b : Nat → Nat) (q : Nat) (I0 : qTI) (L0 : qTL) (D0 : qTD) (τ : Option (Nat × Nat)) (st : qP) (o : Nat) (ds : List qDen) (I : qTI) (L : qTL) (D : qTD) : Prop :=
  (mF I0 I ∧ (∀ a k, ¬ (a = 291 ∧ k = 12) → L a k = L0 a k) ∧ ∀ a k, ¬ (a = 291 ∧ k = 14) → ¬ (a = 305 ∧ 100 * q ≤ k) → D a k = D0 a k) ∧
  mTok b τ st.1 I L D ∧
  (I 291 25 = nI o ∧ I 291 26 = nI st.2.length ∧ ∀ i v, st.2[i]? = some v → D 305 (100 * q + i) = v) ∧
  (I 291 17 = nI ds.length ∧ ∀ x d, ds[x]? = some d → nN I ds x d)
theorem mB_of (h : mR b q I0 L0 D0 τ st o J P F ds I L D) : mB b q I0 L0 D0 τ st o ds I L D := ⟨h.1, h.2.1, h.2.2.1, h.2.2.2.2.2.2⟩
theorem mB_15 (h : mB b q I0 L0 D0 none st o ds I L D) : I 291 15 = 0 := h.2.1.2.2.1
theorem mB_10 (h : mB b q I0 L0 D0 none st o ds I L D) : I 291 10 = nI (qt_from b st.1) := h.2.1.1
theorem mB_15e {e : Nat × Nat} (h : mB b q I0 L0 D0 (some e) st o ds I L D) : I 291 15 ≠ 0 := sF_0 h.2.1
theorem mB_15p {e : Nat × Nat} (h : mB b q I0 L0 D0 (some e) st o ds I L D) : ¬ I 291 15 ≤ 0 := fun y => by
  have h2 := h.2.1
  have a1 := h2.2.2.1
  have a2 := h2.2.1
  rw [h2.1] at y
  have := (qi_le (b := 0) (by omega) (by decide)).mp y
  omega
theorem mB_u (h : mB b q I0 L0 D0 τ st o ds I L D) {k : Nat} (hk : k = 28 ∨ k = 32 ∨ k = 34) (v : Int32) : mB b q I0 L0 D0 τ st o ds (qc_u I 291 k v) L D := by
  obtain ⟨⟨a1, a2, a3⟩, t, ⟨b1, b2, b3⟩, f1, f2⟩ := h
  have n : ∀ j, j ≠ k → qc_u I 291 k v 291 j = I 291 j := fun j hj => qc_u_ne _ _ (Or.inr hj)
  exact ⟨⟨mF_u a1 (by rcases hk with z | z | z <;> (rw [z]; decide)) v, a2, a3⟩, mTok_co t (fun j hj => n j (by omega)) rfl, ⟨(n 25 (by omega)).trans b1, (n 26 (by omega)).trans b2, b3⟩, (n 17 (by omega)).trans f1, fun x d hx => nN_co (fun a h1 h2 => by rw [qc_u_off _ _ (by omega)]) (f2 x d hx)⟩
theorem mB_s (h : mB b q I0 L0 D0 τ st o ds I L D) {k : Nat} (hk : 57 ≤ k ∧ k ≤ 63) (v : Int32) : mB b q (qc_u I0 291 k v) L0 D0 τ st o ds (qc_u I 291 k v) L D := by
  obtain ⟨⟨a1, a2, a3⟩, t, ⟨b1, b2, b3⟩, f1, f2⟩ := h
  have n : ∀ j, j < 57 → qc_u I 291 k v 291 j = I 291 j := fun j hj => qc_u_ne _ _ (Or.inr (by omega))
  refine ⟨⟨fun a j h1 h2 => ?_, a2, a3⟩, mTok_co t (fun j hj => n j (by omega)) rfl, ⟨(n 25 (by decide)).trans b1, (n 26 (by decide)).trans b2, b3⟩, (n 17 (by decide)).trans f1, fun x d hx => nN_co (fun a g1 g2 => by rw [qc_u_off _ _ (by omega)]) (f2 x d hx)⟩
  by_cases z : a = 291 ∧ j = k
  · rw [z.1, z.2, qc_u_at, qc_u_at]
  · rw [qc_u_ne _ _ (by omega), qc_u_ne _ _ (by omega)]
    exact a1 a j h1 h2
theorem mb_fail (h : mB b q I0 L0 D0 none st o ds I L D) {k j : Nat} (hk : 1 ≤ k ∧ k ≤ 6) : ∃ I' : qTI, fX12_fail w I L D R (nI k) (nI j) = some ((), I', L, D, R) ∧ mB b q I0 L0 D0 (some (k, j)) st o ds I' L D := by
  refine ⟨_, mx_fail (mB_15 h) _ _, ?_⟩
  obtain ⟨⟨a1, a2, a3⟩, t, ⟨b1, b2, b3⟩, f1, f2⟩ := h
  have n : ∀ j', j' ≠ 15 → j' ≠ 16 → qc_u (qc_u I 291 15 (nI k)) 291 16 (nI j) 291 j' = I 291 j' := fun j' h1 h2 => by rw [qc_u_ne _ _ (Or.inr h2), qc_u_ne _ _ (Or.inr h1)]
  exact ⟨⟨mF_u (mF_u a1 (by decide) _) (by decide) _, a2, a3⟩, ⟨by rw [qc_u_ne _ _ (Or.inr (by decide)), qc_u_at], hk.1, hk.2, qc_u_at _ _ _ _⟩, ⟨(n 25 (by decide) (by decide)).trans b1, (n 26 (by decide) (by decide)).trans b2, b3⟩, (n 17 (by decide) (by decide)).trans f1, fun x d hx => nN_co (fun a h1 h2 => by rw [qc_u_off _ _ (by omega), qc_u_off _ _ (by omega)]) (f2 x d hx)⟩
theorem mb_nextE {e : Nat × Nat} (h : mB b q I0 L0 D0 (some e) st o ds I L D) : fX12_next w I L D R = some ((), I, L, D, R) := mx_tk0 h.2.1
theorem mb_tp (hS : mS b ln len q I0) (h : mB b q I0 L0 D0 τ st o ds I L D) : tpM b len I := mF_tp hS h.1.1
theorem mb_ts (hb : qt_B b len) (hS : mS b ln len q I0) (h : mB b q I0 L0 D0 none st o ds I L D) (hG : st.1 ≤ len ∧ qt_m b st.1 ≠ 63) : mTs w I L D R (qt_m b st.1) := mTs_N hb (mb_tp hS h) hG.1 h.2.1 hG.2
theorem mb_tsE {e : Nat × Nat} (h : mB b q I0 L0 D0 (some e) st o ds I L D) : mTs w I L D R 63 := mTs_F h.2.1
/-- the next token, from where the one before ended -/
theorem mb_tk (hb : qt_B b len) (hS : mS b ln len q I0) {p : Nat} (hp : p ≤ len) (h11 : I 291 11 = nI p) (h15 : I 291 15 = 0) (h : (mF I0 I ∧ (∀ a k, ¬ (a = 291 ∧ k = 12) → L a k = L0 a k) ∧ ∀ a k, ¬ (a = 291 ∧ k = 14) → ¬ (a = 305 ∧ 100 * q ≤ k) → D a k = D0 a k) ∧ (I 291 25 = nI o ∧ I 291 26 = nI st.2.length ∧ ∀ i v, st.2[i]? = some v → D 305 (100 * q + i) = v) ∧ (I 291 17 = nI ds.length ∧ ∀ x d, ds[x]? = some d → nN I ds x d)) : ∃ (I' : qTI) (L' : qTL) (D' : qTD), fX12_next w I L D R = some ((), I', L', D', R) ∧ (qt_m b p ≠ 63 → mB b q I0 L0 D0 none (p, st.2) o ds I' L' D') ∧ (qt_m b p = 63 → mB b q I0 L0 D0 (some (1, qt_from b p)) (p, st.2) o ds I' L' D') ∧ ∀ k, ¬ (k = 9 ∨ k = 10 ∨ k = 11 ∨ k = 13 ∨ k = 15 ∨ k = 16) → I' 291 k = I 291 k := by
  obtain ⟨⟨a1, a2, a3⟩, ⟨b1, b2, b3⟩, f1, f2⟩ := h
  obtain ⟨I', L', D', k1, k2, k3, k4, k5, k6⟩ := mx_tk (w := w) (L := L) (D := D) (R := R) hb (mF_tp hS a1) h15 h11 hp
  have off : ∀ a, a ≠ 291 → I' a = I a := fun a ha => funext fun k => k2 a k (fun z => ha z.1)
  have n : ∀ j, ¬ (j = 9 ∨ j = 10 ∨ j = 11 ∨ j = 13 ∨ j = 15 ∨ j = 16) → I' 291 j = I 291 j := fun j hj => k2 291 j (fun z => hj z.2)
  have all : ∀ (τ' : Option (Nat × Nat)), mTok b τ' p I' L' D' → mB b q I0 L0 D0 τ' (p, st.2) o ds I' L' D' := fun τ' ht => ⟨⟨frM_mF a1 k2, fun a k z => (k3 a k z).trans (a2 a k z), fun a k z y => (k4 a k z).trans (a3 a k z y)⟩, ht, ⟨(n 25 (by decide)).trans b1, (n 26 (by decide)).trans b2, fun i v hv => (k4 305 _ (fun z => absurd z.1 (by decide))).trans (b3 i v hv)⟩, (n 17 (by decide)).trans f1, fun x d hx => nN_co (fun a h1 h2 => by rw [off a (by omega)]) (f2 x d hx)⟩
  exact ⟨I', L', D', k1, fun z => all none (k5 z), fun z => all (some _) (k6 z), n⟩
theorem mb_next (hb : qt_B b len) (hS : mS b ln len q I0) (h : mB b q I0 L0 D0 none st o ds I L D) (hG : st.1 ≤ len ∧ qt_m b st.1 ≠ 63) : ∃ (I' : qTI) (L' : qTL) (D' : qTD), fX12_next w I L D R = some ((), I', L', D', R) ∧ (∀ st', qs_adv b st = .inr st' → mB b q I0 L0 D0 none st' o ds I' L' D') ∧ ∀ e, qs_adv b st = .inl e → mB b q I0 L0 D0 (some e) (qt_to b st.1, st.2) o ds I' L' D' := by
  obtain ⟨p1, p2, p3, p4⟩ := qt_pos hb hG.1
  obtain ⟨I', L', D', k1, k2, k3, -⟩ := mb_tk (w := w) (R := R) hb hS (p3 hG.2).2 h.2.1.2.1 (mB_15 h) ⟨h.1, h.2.2.1, h.2.2.2⟩
  refine ⟨I', L', D', k1, fun st' z => ?_, fun e z => ?_⟩
  · obtain ⟨z1, z2⟩ := qs_adv_of z
    subst z1
    exact k2 z2
  · unfold qs_adv at z
    split at z
    · rename_i hz
      cases z
      exact k3 hz
    · cases z
theorem mB_n (h : mB b q I0 L0 D0 τ st o ds I L D) {x : Nat} {d : qDen} (hx : ds[x]? = some d) : I 303 x = nI d.1 ∧ I 304 x = nI d.2.1 ∧ d.1 ≤ 4 ∧ d.2.1 ≤ 400 ∧ x < ds.length := by
  obtain ⟨⟨h1, h2, h3, h4, h5, h6⟩, -⟩ := h.2.2.2.2 x d hx
  exact ⟨h1, h2, h3, by omega, (List.getElem?_eq_some_iff.mp hx).1⟩
theorem mb_col (hS : mS b ln len q I0) (h : mB b q I0 L0 D0 τ st o ds I L D) {c : Nat} (hc : c < 10) : (I 292 c = -1 ∧ ln c = 8) ∨ ∃ i, i < 11 ∧ I 292 c = nI i ∧ I 293 i = nI (ln c) ∧ ln c < 8 := by
  rw [h.1.1 292 c (by decide) (by omega)]
  rcases hS.2.1 c hc with z | ⟨i, z1, z2, z3, z4⟩
  · exact Or.inl z
  · exact Or.inr ⟨i, z1, z2, by rw [h.1.1 293 i (by decide) (by omega)]; exact z3, z4⟩
/-- ahead of a sum -/
theorem mB_R (h : mB b q I0 L0 D0 τ st o ds I L D) : mR b q I0 L0 D0 τ st o [] [] [] ds (qc_u (qc_u (qc_u I 291 28 (0 : Int32)) 291 32 (0 : Int32)) 291 34 (0 : Int32)) L D := by
  obtain ⟨c1, c2, c3, c4⟩ := mB_u (mB_u (mB_u h (k := 28) (by decide) 0) (k := 32) (by decide) 0) (k := 34) (by decide) 0
  exact ⟨c1, c2, c3, ⟨by rw [qc_u_ne _ _ (Or.inr (by decide)), qc_u_ne _ _ (Or.inr (by decide)), qc_u_at]; rfl, trivial⟩, ⟨by rw [qc_u_ne _ _ (Or.inr (by decide)), qc_u_at]; rfl, trivial⟩, ⟨qc_u_at _ _ _ _, trivial⟩, c4⟩
/-- a sum, or an or, of the reference -/
def mQ (b : Nat → Nat) (q : Nat) (I0 : qTI) (L0 : qTL) (D0 : qTD) (τ : Option (Nat × Nat)) (st : qP) (ds : List qDen) (I : qTI) (L : qTL) (D : qTD) : Prop := ∃ (o : Nat), (τ = none → o = 0) ∧ mB b q I0 L0 D0 τ st o ds I L D
def mX (b : Nat → Nat) (len q : Nat) (I0 : qTI) (L0 : qTL) (D0 : qTD) (R : qTR) (ds : List qDen) (r : qR (qDen × qP)) (out : qcO Int32) : Prop :=
  (∀ s, r = .inr s → ∃ (x : Nat) (t : List qDen) (I : qTI) (L : qTL) (D : qTD), out = some (nI x, I, L, D, R) ∧ mQ b q I0 L0 D0 none s.2 (ds ++ t) I L D ∧ (ds ++ t)[x]? = some s.1 ∧ (ds ++ t).length ≤ s.2.1) ∧
  (∀ e, r = .inl e → ∃ (st : qP) (ds' : List qDen) (I : qTI) (L : qTL) (D : qTD), out = some (0, I, L, D, R) ∧ mQ b q I0 L0 D0 (some e) st ds' I L D)
theorem mx_start (hb : qt_B b len) (h : mB b q I0 L0 D0 none st 0 ds I L D) (hG : qs_G b len st) (hd : ds.length ≤ st.1) : ∃ I1 : qTI, fX12_frame w (qc_u (qc_u (qc_u I 291 28 (0 : Int32)) 291 32 (0 : Int32)) 291 34 (0 : Int32)) L D R 0 0 0 0 = some ((), I1, L, D, R) ∧ mR b q I0 L0 D0 none st 0 [] [] [(0, 0, 0, 0, 0)] ds I1 L D ∧ mG b len st 0 [] [] [(0, 0, 0, 0, 0)] ds qcF := by
  have h3 := mB_R h
  obtain ⟨I1, k1, k2⟩ := mr_frame (w := w) (R := R) h3 (s := 0) (a := 0) (by decide) (by decide) (by decide) 0 0
  refine ⟨I1, k1, k2, hG, by decide, ?_, ?_, ?_, ?_, ?_⟩
  · show 0 + 1 + ds.length ≤ st.1 + 1; omega
  · exact Nat.zero_le _
  · show 1 ≤ 0 + 1; omega
  · show 1 ≤ 1; omega
  · show 500 ≤ 4096 + st.1; omega
theorem mx_fin (hb : qt_B b len) {x n' : Nat} (h : mR b q I0 L0 D0 none st o J [x] [f] ds I L D) : ∃ I' : qTI, fX12_expression_l309 w (fX12_expression_l27 w N) (n' + 1) (I, L, D, R, x1, 2) = some (nI x, I', L, D, R) ∧ mR b q I0 L0 D0 none st o J [] [f] ds I' L D := by
  obtain ⟨u1, u2, u3⟩ := mr_taken (w := w) (R := R) h (by decide)
  refine ⟨_, ?_, u2⟩
  rw [fX12_expression_l309_s]
  unfold fX12_expression_b309 fX12_expression_b339
  rw [if_pos (mR_15 h), if_pos rfl, h.2.2.2.2.2.1.1, if_pos (show nI [f].length ≤ 1 from (by decide : nI 1 ≤ 1)), if_pos (mR_15 h), if_pos rfl, u1, qc_bds]
theorem mx_sum (hb : qt_B b len) (hS : mS b ln len q I0) (hln : ∀ c, c < 10 → ln c ≤ 8) (h : mQ b q I0 L0 D0 none st ds I L D) (hG : qs_G b len st) (hd : ds.length ≤ st.1) (h9 : qs_n9 (qs_p b ln n 0 0 0 0 (d_lf 0 []) st)) : mX b len q I0 L0 D0 R ds (qs_p b ln n 0 0 0 0 (d_lf 0 []) st) (fX12_sum w I L D R) := by
  obtain ⟨o, h0, h⟩ := h
  have h0 := h0 rfl
  subst h0
  obtain ⟨I1, k1, k2, k3⟩ := mx_start (w := w) (R := R) hb h hG hd
  have hv := (mA_all (w := w) (R := R) (x1 := 1) (L0 := L0) (D0 := D0) hb hS hln n).1 0 st [] [] _ ds qcF I1 L D k2 k3 ⟨_, [], rfl, rfl⟩ (Or.inr (by decide)) h9
  unfold fX12_sum fX12_expression
  rw [k1, qc_bds]
  refine ⟨fun s z => ?_, fun e z => ?_⟩
  · obtain ⟨N, n', x, t, I2, L2, D2, e1, e2, e3, e4, e5⟩ := hv.1 s z
    obtain ⟨n', rfl⟩ : ∃ k, n' = k + 1 := ⟨n' - 1, by omega⟩
    obtain ⟨I3, f1, f2⟩ := mx_fin (w := w) (R := R) (N := N) (x1 := 1) (n' := n') hb e2
    have e1 : fX12_expression_l27 w qcF (I1, L, D, R, 1, 1, 1) = fX12_expression_l309 w (fX12_expression_l27 w N) (n' + 1) (I2, L2, D2, R, 1, 2) := e1
    refine ⟨x, t, I3, L2, D2, by rw [e1, f1, qc_bds], ⟨0, fun _ => rfl, mB_of f2⟩, e3, ?_⟩
    have h3 : 0 + 1 + (ds ++ t).length ≤ s.2.1 + 1 := e4.2.2.1
    omega
  · obtain ⟨I2, L2, D2, st', o', J', P', F', ds', e1, e2⟩ := hv.2 e z
    exact ⟨st', ds', I2, L2, D2, by rw [e1, qc_bds], ⟨o', fun u => (by cases u), mB_of e2⟩⟩
theorem mx_or (hb : qt_B b len) (hS : mS b ln len q I0) (hln : ∀ c, c < 10 → ln c ≤ 8) (h : mQ b q I0 L0 D0 none st ds I L D) (hG : qs_G b len st) (hd : ds.length ≤ st.1) (h9 : qs_n9 (qs_p b ln n 2 1 0 0 (d_lf 0 []) st)) : mX b len q I0 L0 D0 R ds (qs_p b ln n 2 1 0 0 (d_lf 0 []) st) (fX12_or w I L D R) := by
  obtain ⟨o, h0, h⟩ := h
  have h0 := h0 rfl
  subst h0
  obtain ⟨I1, k1, k2, k3⟩ := mx_start (w := w) (R := R) hb h hG hd
  have hv := (mA_all (w := w) (R := R) (x1 := 0) (L0 := L0) (D0 := D0) hb hS hln n).2.1 1 0 st [] [] _ ds qcF I1 L D k2 k3 (by decide) (by decide) ⟨_, [], rfl, Or.inl rfl⟩ h9
  rw [if_pos (show 1 ≤ 3 by decide)] at hv
  unfold fX12_or fX12_expression
  rw [k1, qc_bds]
  refine ⟨fun s z => ?_, fun e z => ?_⟩
  · obtain ⟨N, n', x, t, I2, L2, D2, e1, e2, e3, e4, e5⟩ := hv.1 s z
    obtain ⟨n', rfl⟩ : ∃ k, n' = k + 1 := ⟨n' - 1, by omega⟩
    have hen := (qs_ended b ln n).1 _ _ _ _ _ z
    rw [K_m1 hb hS e2 (mG_st e4) hen (by decide) (by decide) ⟨_, [], rfl, rfl⟩, if_neg (fun u => by
      rcases u.2 with v | v
      · exact absurd v (by decide)
      · exact v rfl)] at e1
    obtain ⟨I3, f1, f2⟩ := mx_fin (w := w) (R := R) (N := N) (x1 := 0) (n' := 4095) hb e2
    have f1 : fX12_expression_b306 w (fX12_expression_l27 w N) I2 L2 D2 R 0 = some (nI x, I3, L2, D2, R) := f1
    refine ⟨x, t, I3, L2, D2, by rw [e1, f1, qc_bds], ⟨0, fun _ => rfl, mB_of f2⟩, e3, ?_⟩
    have h3 : 0 + 1 + (ds ++ t).length ≤ s.2.1 + 1 := e4.2.2.1
    omega
  · obtain ⟨I2, L2, D2, st', o', J', P', F', ds', e1, e2⟩ := hv.2 e z
    exact ⟨st', ds', I2, L2, D2, by rw [e1, qc_bds], ⟨o', fun u => (by cases u), mB_of e2⟩⟩
end
