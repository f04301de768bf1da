/-! the class reads order, how, by, set as the spec does -/
theorem qs_ba {α β γ : Type} (r : qR α) (f : α → qR β) (g : β → qR γ) : qs_b (qs_b r f) g = qs_b r (fun a => qs_b (f a) g) := by cases r <;> rfl
theorem qs_fb {α β : Type} (ok : Bool) (j : Nat) (r : qR α) (g : α → qR β) : qs_b (qs_fit ok j r) g = qs_fit ok j (qs_b r g) := by unfold qs_fit; split <;> rfl
theorem qs_bi {α β : Type} (a : α) (f : α → qR β) : qs_b (.inr a) f = f a := rfl
theorem qs_be {α β : Type} (e : Nat × Nat) (f : α → qR β) : qs_b (.inl e) f = .inl e := rfl
theorem i_01 {α : Type} {k : Int32} {m : Nat} (hk : k = nI m) (hm : m ≤ 4) (f : Int32 → α) : (if k = 0 then f 0 else f 1) = f (if (!(Nat.beq m 0)) = true then 1 else 0) := by
  subst hk
  rcases (show m = 0 ∨ m = 1 ∨ m = 2 ∨ m = 3 ∨ m = 4 by omega) with rfl | rfl | rfl | rfl | rfl <;> rfl
theorem i_10 {α : Type} {k : Int32} {m : Nat} (hk : k = nI m) (hm : m ≤ 4) (f : Int32 → α) : (if k = 0 then f 1 else f 0) = f (if Nat.beq m 0 = true then 1 else 0) := by
  subst hk
  rcases (show m = 0 ∨ m = 1 ∨ m = 2 ∨ m = 3 ∨ m = 4 by omega) with rfl | rfl | rfl | rfl | rfl <;> rfl
/-- the words for how, the form, what else a query keeps -/
def q_hm (h : Nat) : Nat := if h = 0 then 10 else if h = 1 then 11 else if h = 2 then 27 else if h = 3 then 28 else if h = 4 then 12 else 10
def q_fm (s : Nat) : Nat := if s = 0 then 5 else if s = 1 then 9 else 15
def q_kd (sort : Nat) (x : qX) : Nat := match x.2.1 with
  | none => 2
  | some d => if sort = 0 then 4 else if sort = 1 then q_want x.2.2.2.2.2.1 d.1 else 2
def q_or (o : Nat) : Int32 := if o = 0 then 0 else if o = 1 then 1 else -1
def q_ft (o : Option Nat) : Int32 := match o with
  | none => 16
  | some v => nI v
def q_tg (o : Option Nat) : Int32 := match o with
  | none => -1
  | some v => nI v
def q_z (sort : Nat) (x : qX) : qZS := (nI (q_kd sort x), q_tg x.2.2.2.2.2.2, q_or x.2.2.2.1, q_ft x.2.2.2.2.1, q_fm sort, q_hm x.2.2.2.2.2.1)
def rK1 (o : Option qDen) (l : List (Nat × Nat)) (n : Nat) (t : List (Nat × Nat) × Nat × Nat) : Prop := ∃ h, (o = none → h = 0) ∧ t = (l, h, n)
def rK (ln : Nat → Nat) (sort : Nat) (x : qX) (K : qKs) : Prop := rK1 x.1 (q_c0 x.1) (q_n0 x.1) (K 270) ∧ rK1 x.2.1 (q_c1 ln sort x) (q_n1 sort x) (K 273) ∧ rK1 x.2.2.1 (q_c0 x.2.2.1) (q_n0 x.2.2.1) (K 276)
/-- the class between two sums -/
def rT (b ln : Nat → Nat) (len sort : Nat) (s : qXS) (I : qTI) (D : qTD) (R : qTR) : Prop := ∃ K, rG b ln len s.2 K (q_z sort s.1) I D R ∧ rK ln sort s.1 K
section
variable {w : qcW} {b ln : Nat → Nat} {len c B sort : Nat} {I : qTI} {L : qTL} {D : qTD} {R : qTR} {st : qP} {K : qKs} {z : qZS} {x : qX}
theorem rK_0 (h : rK ln sort x K) (hx : x.1 = none) : K 270 = ([], 0, 0) := by
  obtain ⟨⟨h1, h2, h3⟩, -⟩ := h
  rw [h3, h2 hx, hx]
  rfl
theorem rK_1 (h : rK ln sort x K) (hx : x.2.1 = none) : K 273 = ([], 0, 0) := by
  obtain ⟨-, ⟨h1, h2, h3⟩, -⟩ := h
  rw [h3, h2 hx]
  unfold q_c1 q_n1
  rw [hx]
theorem rK_2 (h : rK ln sort x K) (hx : x.2.2.1 = none) : K 276 = ([], 0, 0) := by
  obtain ⟨-, -, h1, h2, h3⟩ := h
  rw [h3, h2 hx, hx]
  rfl
theorem rG_f (h : rG b ln len st K z I D R) : I 268 2 = nI (qt_from b st.1) := h.1.2.2.2.1.1
theorem rN_I (h : rN b ln len st K I D R) {k : Nat} (h5 : k ≠ 5) (h6 : k ≠ 6) (v : Int32) : rN b ln len st K (qc_u I 267 k v) D R := by
  obtain ⟨a1, a2, a3, a4, a5, a6, a7⟩ := h
  have o : ∀ x, x ≠ 267 → qc_u I 267 k v x = I x := fun x hx => qc_u_off _ _ hx
  refine ⟨⟨by rw [o 265 (by decide)]; exact a1.1, by rw [o 266 (by decide)]; exact a1.2⟩, ?_, a3, ?_, by rw [qc_u_ne _ _ (Or.inr (fun u => h6 u.symm))]; exact a5, ⟨by rw [qc_u_ne _ _ (Or.inr (fun u => h5 u.symm))]; exact a6.1, a6.2⟩, fun c hc => ?_⟩
  · unfold clX
    rw [o 258 (by decide), o 259 (by decide)]
    exact a2
  · unfold sX
    rw [o 268 (by decide)]
    exact a4
  · exact kC_co (a7 c hc) (fun k _ _ => by rw [o c (by omega)]) (o _ (by omega)) (o _ (by omega))
theorem rN_R (h : rN b ln len st K I D R) {k : Nat} (hk : k = 4 ∨ k = 7 ∨ k = 8) (v : Nat) : rN b ln len st K I D (qc_u R 267 k v) := by
  obtain ⟨a1, a2, a3, ⟨s1, s2, s3, s4, s5, s6⟩, a5, a6, a7⟩ := h
  exact ⟨a1, a2, FR_4 a3 hk v, ⟨s1, s2, s3, by rw [qc_u_ne _ _ (Or.inl (by decide))]; exact s4, s5, s6⟩, a5, a6, a7⟩
theorem rG_9 (h : rG b ln len st K z I D R) (v : Int32) : rG b ln len st K (v, z.2) (qc_u I 267 9 v) D R := by
  obtain ⟨h1, ⟨z1, z2, z3, z4, z5, z6⟩, hG⟩ := h
  exact ⟨rN_I h1 (by decide) (by decide) v, ⟨qc_u_at _ _ _ _, by rw [qc_u_ne _ _ (Or.inr (by decide))]; exact z2, by rw [qc_u_ne _ _ (Or.inr (by decide))]; exact z3, by rw [qc_u_ne _ _ (Or.inr (by decide))]; exact z4, z5, z6⟩, hG⟩
theorem rG_10 (h : rG b ln len st K z I D R) (v : Int32) : rG b ln len st K (z.1, v, z.2.2) (qc_u I 267 10 v) D R := by
  obtain ⟨h1, ⟨z1, z2, z3, z4, z5, z6⟩, hG⟩ := h
  exact ⟨rN_I h1 (by decide) (by decide) v, ⟨by rw [qc_u_ne _ _ (Or.inr (by decide))]; exact z1, qc_u_at _ _ _ _, by rw [qc_u_ne _ _ (Or.inr (by decide))]; exact z3, by rw [qc_u_ne _ _ (Or.inr (by decide))]; exact z4, z5, z6⟩, hG⟩
theorem rG_11 (h : rG b ln len st K z I D R) (v : Int32) : rG b ln len st K (z.1, z.2.1, v, z.2.2.2) (qc_u I 267 11 v) D R := by
  obtain ⟨h1, ⟨z1, z2, z3, z4, z5, z6⟩, hG⟩ := h
  exact ⟨rN_I h1 (by decide) (by decide) v, ⟨by rw [qc_u_ne _ _ (Or.inr (by decide))]; exact z1, by rw [qc_u_ne _ _ (Or.inr (by decide))]; exact z2, qc_u_at _ _ _ _, by rw [qc_u_ne _ _ (Or.inr (by decide))]; exact z4, z5, z6⟩, hG⟩
theorem rG_12 (h : rG b ln len st K z I D R) (v : Int32) : rG b ln len st K (z.1, z.2.1, z.2.2.1, v, z.2.2.2.2) (qc_u I 267 12 v) D R := by
  obtain ⟨h1, ⟨z1, z2, z3, z4, z5, z6⟩, hG⟩ := h
  exact ⟨rN_I h1 (by decide) (by decide) v, ⟨by rw [qc_u_ne _ _ (Or.inr (by decide))]; exact z1, by rw [qc_u_ne _ _ (Or.inr (by decide))]; exact z2, by rw [qc_u_ne _ _ (Or.inr (by decide))]; exact z3, qc_u_at _ _ _ _, z5, z6⟩, hG⟩
theorem rG_7 (h : rG b ln len st K z I D R) (v : Nat) : rG b ln len st K (z.1, z.2.1, z.2.2.1, z.2.2.2.1, v, z.2.2.2.2.2) I D (qc_u R 267 7 v) := by
  obtain ⟨h1, ⟨z1, z2, z3, z4, z5, z6⟩, hG⟩ := h
  exact ⟨rN_R h1 (by decide) v, ⟨z1, z2, z3, z4, qc_u_at _ _ _ _, by rw [qc_u_ne _ _ (Or.inr (by decide))]; exact z6⟩, hG⟩
theorem rG_8 (h : rG b ln len st K z I D R) (v : Nat) : rG b ln len st K (z.1, z.2.1, z.2.2.1, z.2.2.2.1, z.2.2.2.2.1, v) I D (qc_u R 267 8 v) := by
  obtain ⟨h1, ⟨z1, z2, z3, z4, z5, z6⟩, hG⟩ := h
  exact ⟨rN_R h1 (by decide) v, ⟨z1, z2, z3, z4, by rw [qc_u_ne _ _ (Or.inr (by decide))]; exact z5, qc_u_at _ _ _ _⟩, hG⟩
theorem rG_4 (h : rG b ln len st K z I D R) (v : Nat) : rG b ln len st K z I D (qc_u R 267 4 v) := ⟨rN_R h.1 (by decide) v, rZ_4 h.2.1 v, h.2.2⟩
theorem kt_0 (l : List (Nat × Nat)) {n : Nat} : (([] : List (Nat × Nat)) ++ qs_sh ([] : List (Nat × Nat)).length l, 0 + 1, max 0 (0 + n)) = (l, 1, n) := by
  rw [List.nil_append, List.length_nil, qs_sh_0, Nat.zero_add, Nat.zero_add, Nat.zero_max]
/-- a sum into an empty part -/
theorem rU_sum0 (hW : qc_WF w) (hb : qt_B b len) (hln : ∀ c, c < 10 → ln c ≤ 8) (hc : c = 270 ∨ c = 273 ∨ c = 276) (h : rG b ln len st K z I D R) (hK : K c = ([], 0, 0)) {tag x : Nat} (ht : (tag = 0 ∧ x = 0) ∨ (tag = 2 ∧ x = 1)) :
    rU (fun q k I D R => k = nI q.1.1 ∧ rG b ln len q.2 (kU K c (q.1.2.2.2, 1, q.1.2.1)) z I D R ∧ R 267 4 = c ∧ qs_Q b len 0 st q) (eP c 5000) L (qs_p b ln qN tag x 0 0 (d_lf 0 []) st) I D R (fX2_rc w 200 tag 0 I L D (qc_u R 267 4 c)) := by
  have h1 := rU_sum (w := w) (L := L) hW hb hln hc h hK (Nat.zero_le _) (Nat.le_refl _) (Nat.zero_le _) ht
  refine rU_mono h1 (fun q k I D R hp => ?_) (fun _ _ _ h => h)
  obtain ⟨a1, a2, a3, a4⟩ := hp
  rw [kt_0] at a2
  exact ⟨a1, a2, a3, a4⟩
theorem r_len (hb : qt_B b len) {q : qDen × qP} (h : qs_Q b len 0 st q) : q.1.2.2.2.length ≤ 2400 ∧ q.1.1 ≤ 4 ∧ 1 ≤ q.1.2.1 ∧ q.1.2.1 ≤ 400 := by
  obtain ⟨h1, h2, h3, h4⟩ := h
  obtain ⟨d1, d2, d3, d4, d5, d6⟩ := h2
  have := h1.1
  have := hb.1
  omega
/-- where .. -/
theorem r_cond (hW : qc_WF w) (hb : qt_B b len) (hln : ∀ c, c < 10 → ln c ≤ 8) (h : rT b ln len sort (x, st) I D R) (hx : x.1 = none) : rU (fun s (_ : Unit) I D R => rT b ln len sort s I D R) (rE 5000) L (q_cond b ln qN x st) I D R (fX2_readCondition w I L D R) := by
  obtain ⟨K, hG, hK⟩ := h
  have hK0 := rK_0 hK hx
  unfold q_cond fX2_readCondition
  refine rU_bd (rU_sum0 hW hb hln (by decide) hG hK0 (Or.inr ⟨rfl, rfl⟩)) (fun q k I1 D1 R1 hr hp => ?_) (fun e v I1 D1 R1 he => ?_)
  · obtain ⟨hk, g1, g4, gQ⟩ := hp
    rw [i_10 hk gQ.2.1.1 (fun v => fX2_readCondition_b24 w I1 L D1 R1 v)]
    unfold fX2_readCondition_b24
    rw [rG_f g1]
    refine rU_fit g1 rfl (fun hok => ?_) (fun e I2 D2 R2 he _ _ => eO_some he _)
    refine rU_some ⟨_, g1, ⟨1, fun u => (by cases u), kU_at _ _ _⟩, ?_, ?_⟩
    · rw [kU_ne _ _ (by decide)]; exact hK.2.1
    · rw [kU_ne _ _ (by decide)]; exact hK.2.2
  · have : ∀ v, eO (rE 5000 e) I1 L D1 R1 (fX2_readCondition_b24 w I1 L D1 R1 v) := fun v => by
      unfold fX2_readCondition_b24
      rw [eO_fit he.1, qc_bds]
      exact eO_some he.1 _
    split
    · exact this 1
    · exact this 0
theorem r_conv (hW : qc_WF w) {l : List (Nat × Nat)} {h pk f t : Nat} (g : rG b ln len st (kU K 273 (l, h, pk)) z I D R) (h4 : R 267 4 = 273) (hl : l.length < 5000) (hp : h ≤ pk) (hf : f ≤ 4) (ht : t ≤ 4) : ∃ I' : qTI, fX0_convert w I L D R (R 267 4) (nI f) (nI t) = some ((), I', L, D, R) ∧ rG b ln len st (kU K 273 (l ++ qs_cv f t, h, pk)) z I' D R ∧ rF I D R I' D R := by
  have hk := g.1.2.2.2.2.2.2 273 (by decide)
  rw [kU_at] at hk
  obtain ⟨I', e1, e2, e3⟩ := kC_cv (w := w) (L := L) (D := D) hW g.1.2.2.1 (by decide) hk hf ht hl hp
  obtain ⟨g1, g2⟩ := rG_C (t := (l ++ qs_cv f t, h, pk)) (by decide) g e3 e2
  rw [kU_kU] at g1
  exact ⟨I', by rw [h4]; exact e1, g1, g2⟩
theorem rE_up {B2 : Nat} {e : Nat × Nat} (h : rE B e I R) (hB : B ≤ B2) : rE B2 e I R := rE_mono h hB
/-- order .. -/
theorem r_order (hW : qc_WF w) (hb : qt_B b len) (hln : ∀ c, c < 10 → ln c ≤ 8) (h : rT b ln len 0 (x, st) I D R) (hx : x.2.1 = none) : rU (fun s (_ : Unit) I D R => rT b ln len 0 s I D R) (rE 5001) L (qs_b (q_main b ln qN x st) fun s => q_down b s.1 s.2) I D R (fX2_readOrder w I L D R) := by
  obtain ⟨K, hG, hK⟩ := h
  have hK0 := rK_1 hK hx
  unfold q_main fX2_readOrder
  rw [qs_ba]
  refine rU_bd (rU_sum0 hW hb hln (by decide) hG hK0 (Or.inl ⟨rfl, rfl⟩)) (fun q k I1 D1 R1 hr hp => ?_) (fun e v I1 D1 R1 he => ?_)
  · obtain ⟨hk, g1, g4, gQ⟩ := hp
    obtain ⟨n1, n2, n3, n4⟩ := r_len hb gQ
    rw [i_01 hk gQ.2.1.1 (fun v => fX2_readOrder_b25 w I1 L D1 R1 k v), qs_fb, qs_bi]
    unfold fX2_readOrder_b25
    rw [rG_f g1]
    refine rU_fit g1 rfl (fun hok => ?_) (fun e I2 D2 R2 he o1 o2 => ?_)
    · rw [g4, qc_WF_i hW (by decide), qc_gdt]
      obtain ⟨I2, e1, e2, e3⟩ := r_conv (w := w) (L := L) hW (rG_9 g1 4) g4 (by omega) n3 n2 (Nat.le_refl 4)
      have e1 : fX0_convert w (qc_u I1 267 9 4) L D1 R1 (R1 267 4) (nI q.1.1) 4 = some ((), I2, L, D1, R1) := e1
      rw [g4] at e1
      rw [hk, e1, qc_bds]
      refine rU_tr (rF_tr (rF_I 9 4) e3) ?_
      unfold q_down
      show rU _ _ L (if qt_m b q.2.1 = 7 then _ else _) I2 D1 R1 _
      have kk : ∀ o, rK ln 0 (q_ord (x.1, some q.1, x.2.2) o) (kU K 273 (q.1.2.2.2 ++ qs_cv q.1.1 4, 1, q.1.2.1)) := fun o => by
        refine ⟨?_, ⟨1, fun u => (by cases u), ?_⟩, ?_⟩
        · rw [kU_ne _ _ (by decide)]; exact hK.1
        · rw [kU_at]; rfl
        · rw [kU_ne _ _ (by decide)]; exact hK.2.2
      by_cases y : qt_m b q.2.1 = 7
      · rw [if_pos y]
        refine rU_bd (r_took1 hb e2 (by decide) (by decide) y) (fun st1 v I3 D3 R3 hr hp => ?_) (fun e v I3 D3 R3 he => ?_)
        · obtain ⟨rfl, g5⟩ := hp
          rw [if_pos rfl]
          exact rU_tr (rF_I 11 (-1)) (rU_some ⟨_, rG_11 g5 (-1), kk 2⟩)
        · split
          · exact eO_I 11 (-1) (eO_some (rE_I (rE_up he (by decide)) 11 (-1)) _)
          · exact eO_I 11 1 (eO_some (rE_I (rE_up he (by decide)) 11 1) _)
      · rw [if_neg y, r_took0 e2 (by decide) y, qc_bds, if_neg (by decide)]
        exact rU_tr (rF_I 11 1) (rU_some ⟨_, rG_11 e2 1, kk 1⟩)
    · have h4 : R2 267 4 = 273 := (o2 4).trans g4
      rw [h4, qc_WF_i hW (by decide), qc_gdt]
      refine eO_I 9 4 (eO_bd (eO_eU (k := 1) (c := 273) (by decide) ⟨rE_I he 9 4, h4⟩ (fun n hn hs => eU_convert hW (by decide) hs (by omega) _ _)) fun r I1 D1 R1 g => ?_)
      rw [eO_took g.1 (by decide) (by decide), qc_bds, if_neg (by decide)]
      exact eO_I 11 1 (eO_some (rE_I g.1 11 1) _)
  · have : ∀ v s0, eO (rE 5001 e) I1 L D1 R1 (fX2_readOrder_b25 w I1 L D1 R1 v s0) := fun v s0 => by
      unfold fX2_readOrder_b25
      rw [eO_fit he.1, qc_bds, he.2, qc_WF_i hW (by decide), qc_gdt]
      refine eO_I 9 4 (eO_bd (eO_eU (k := 1) (c := 273) (by decide) (eP_I he 9 4) (fun n hn hs => eU_convert hW (by decide) hs (by omega) _ _)) fun r I1 D1 R1 g => ?_)
      rw [eO_took g.1 (by decide) (by decide), qc_bds, if_neg (by decide)]
      exact eO_I 11 1 (eO_some (rE_I g.1 11 1) _)
    split
    · exact this v 0
    · exact this v 1
end
