/-! an object that is a hit, with both -/
section
variable {w : qcW} {L0 : Nat → Int64} {D0 : Nat → UInt64} {L1 : Nat → Int64} {D1 : Nat → UInt64} {rc : Int32} {nr q m m' n1 : Nat} {op1 ar1 op2 ar2 : Nat → Int32} {C S C' S' : qcM}
theorem qx_Hh_co {x : Int32} {t h : Nat} (hH : qx_Hh x t h C S) (h1 : C'.1 281 = C.1 281) (h2 : C'.2.2.1 282 = C.2.2.1 282) (h3 : C'.1 280 5 = C.1 280 5) (h4 : S'.1 333 = S.1 333) (h5 : S'.2.2.1 334 = S.2.2.1 334) (h6 : S'.1 291 81 = S.1 291 81) : qx_Hh x t h C' S' := by
  unfold qx_Hh at hH ⊢
  rw [h1, h2, h3, h4, h5, h6]
  exact hH
theorem qx_Hh_F {x : Int32} {t h : Nat} (hH : qx_Hh x t h C S) (hF : qx_F L0 D0 L1 D1 rc m C S true C' S') : qx_Hh x t h C' S' := by
  obtain ⟨h1, h2, h3, h4, h5, h6, h7⟩ := hF
  obtain ⟨k1, ⟨k2, k3, k4, k5⟩, k6, k7⟩ := h6 rfl
  exact qx_Hh_co hH (funext fun k => h1.1 281 k (by omega) (by omega) (by omega)) (h1.2.2.1 282 (by decide) (by decide)) k5 (funext fun k => h2.1 333 k (by omega) (by omega)) (h2.2.2.1 334 (by decide) (by decide) (by decide)) (h2.1 291 81 (by omega) (by omega))
theorem qx_goH {t h kk md : Nat} {x : Int32} {r1 : List Nat} (h338 : 338 ≤ C.2.2.2 286 3) (hk6 : C.1 (C.2.2.2 286 3) 6 = nI kk) (hk8 : C.1 (C.2.2.2 286 3) 8 = x) (hx : x = 1 ∨ x = -1 ∨ x = 0) (h9 : C.2.2.2 (C.2.2.2 286 3) 4 = 5 ∨ C.2.2.2 (C.2.2.2 286 3) 4 = 15)
    (hr1 : md = 0 ∧ n1 = 0 ∧ r1 = [] ∧ kk = 2 ∨ md = 0 ∧ 0 < n1 ∧ r1 = [4] ∧ kk = 4 ∧ qw_wf nr n1 op1 ar1 r1 ∨ md = 2 ∧ 0 < n1 ∧ r1 = [] ∧ kk = 2 ∧ qw_wf nr n1 op1 ar1 r1) (hs1 : ∀ k l, k < n1 → l < 8 → op1 k = nI (20 + l) → k + 1 = n1 ∧ m < 16 ∧ ∃ c, c < 10 ∧ ar1 k = nI c ∧ C.1 258 c = rc) (hn1 : n1 ≤ 200)
    (hc1 : qx_cd w 1 q n1 op1 ar1 C S) (hc2 : qx_cd w 2 q 0 op2 ar2 C S) (hre : qx_re w nr q C S) (h71 : C.1 286 4 = nI t) (hN : qx_N S) (h69 : S.1 291 69 = 0) (hW : qx_W L0 D0 L1 D1 rc m C S) (h4 : C.1 280 4 = (S.2.1 291 70).toInt32) (hH : qx_Hh x t h C S) (ht : t < 16) :
    ∃ (b : Bool) (C' S' : qcM) (m' : Nat), fX4_visit_b35 w C.1 C.2.1 C.2.2.1 C.2.2.2 = some (b, C') ∧ fX12_goesOn w S.1 S.2.1 S.2.2.1 S.2.2.2 (nI md) = some (b, S') ∧ qx_Y L0 D0 L1 D1 rc m' C S b C' S' ∧ (m' = m ∨ (m' = m + 1 ∧ ∃ k l, k < n1 ∧ l < 8 ∧ op1 k = nI (20 + l))) ∧ (b = true → ∃ h', qx_Hh x (t + 1) h' C' S') := by
  have hq : q < 12 := hre.2.2.2.2.2.1
  have hkk : kk ≤ 4 := by omega
  obtain ⟨b, C1, S1, m', x2, s0, e1, e2, e3, e4, e5, e6⟩ := qx_val (L0 := L0) (D0 := D0) (L1 := L1) (D1 := D1) (rc := rc) (res := r1) hkk h338 hk6 (by rcases hr1 with ⟨_, _, z1, z2⟩ | ⟨_, _, z1, z2, _⟩ | ⟨_, _, z1, z2, _⟩; exact Or.inl ⟨z1, z2⟩; exact Or.inr (by rw [z1, z2]); exact Or.inl ⟨z1, z2⟩) (by rcases hr1 with ⟨_, z0, z1, z2⟩ | ⟨_, z0, z1, z2, z3⟩ | ⟨_, z0, z1, z2, z3⟩; exact Or.inl ⟨z0, z1⟩; exact Or.inr ⟨z0, z3⟩; exact Or.inr ⟨z0, z3⟩) hs1 hc1 hre hN h69 hW h4
  have h317 : S.1 317 (3 * q + 1) = nI n1 := by
    obtain ⟨_, b0, _, _, _, _, _, _, _, _, z⟩ := hc1
    exact z
  rw [e1, mx_goesOn (nI md) hq hre.2.2.2.2.2.2.1 hn1 h317]
  cases b
  · have hn0 : n1 ≠ 0 := fun z => by have := (e4 z).2; cases this
    rw [if_neg (by decide), if_neg hn0, e5 hn0]
    exact ⟨false, C1, S1, m', rfl, rfl, qx_Y_F e2, e3, fun z => by cases z⟩
  · obtain ⟨v1, v2⟩ := e6 rfl
    rw [if_pos rfl]
    obtain ⟨hM, p3⟩ : (if n1 = 0 then fX12_goesOn_b36 w S.1 S.2.1 S.2.2.1 S.2.2.2 (nI md) 0 else (qc_bd (fX12_works w S.1 S.2.1 S.2.2.1 S.2.2.2 (1 : Int32)) fun r15 I15 L15 D15 R15 => if r15 = true then (fX12_goesOn_b36 w I15 L15 D15 R15 (nI md) 1) else (some (false, I15, L15, D15, R15)))) = (qc_bd (fX12_hit w S1.1 S1.2.1 S1.2.2.1 S1.2.2.2 (S1.1 291 71) s0) fun r9 I9 L9 D9 R9 => some (true, I9, L9, D9, R9)) ∧ qf_N s0 := by
      rcases hr1 with ⟨y0, z0, z1, z2⟩ | ⟨y0, z0, z1, z2, z3⟩ | ⟨y0, z0, z1, z2, z3⟩
      · obtain ⟨a1, a2⟩ := v1 z1
        obtain ⟨a3, _⟩ := e4 z0
        subst y0
        refine ⟨?_, by rw [a2]; exact (qf_n64 _).mp (by decide)⟩
        rw [if_pos z0, a3, a2]
        unfold fX12_goesOn_b36 fX12_goesOn_b66 fX12_goesOn_b81
        rw [if_neg (show ¬ nI 0 = 2 by decide), if_pos rfl, if_pos rfl, if_pos (show nI 0 = 0 by decide)]
      · obtain ⟨a1, a2⟩ := v2 (by rw [z1, z2])
        obtain ⟨a3, a4, _⟩ := a2 (by omega)
        subst y0
        refine ⟨?_, a4⟩
        rw [if_neg (by omega), e5 (by omega), qx_bdS, if_pos rfl, a3]
        unfold fX12_goesOn_b36 fX12_goesOn_b66 fX12_goesOn_b81
        rw [if_neg (show ¬ nI 0 = 2 by decide), if_neg (show ¬ (1 : Int32) = 0 by decide), if_neg (show ¬ (1 : Int32) = 0 by decide), if_pos (show nI 0 = 0 by decide), show Int32.toNatClampNeg (0 : Int32) = 0 from rfl]
      · obtain ⟨a1, a2⟩ := v1 z1
        subst y0
        refine ⟨?_, by rw [a2]; exact (qf_n64 _).mp (by decide)⟩
        rw [if_neg (by omega), e5 (by omega), qx_bdS, if_pos rfl, a2]
        unfold fX12_goesOn_b36
        rw [if_pos (show nI 2 = 2 by decide)]
    rw [hM]
    have hc2' := qx_cd_F hc2 e2.1 e2.2.1
    have hre' := qx_re_F hre e2.1 e2.2.1
    obtain ⟨k69, _, _⟩ := e2.2.2.2.2.2.1 rfl
    obtain ⟨b2, C2, S2, m2, d1, d2, d3, d4, d5, d6⟩ := qx_part (L0 := L0) (D0 := D0) (L1 := L1) (D1 := D1) (rc := rc) (p := 2) (n := 0) (res := []) (m := m') (by decide) (Or.inl ⟨rfl, rfl⟩) (fun k l hk => by omega) hc2' hre' e2.2.2.1 k69 e2.2.2.2.1 e2.2.2.2.2.1
    obtain ⟨z1, z2⟩ := d4 rfl
    subst z1 z2
    have hm2 : m2 = m' := by
      rcases d3 with z | ⟨_, k, l, z1, _⟩
      · exact z
      · omega
    subst hm2
    have hFF := qx_F_tr e2 d2
    have hR2 : C2.2.2.2 = C.2.2.2 := hFF.1.2.2.2
    have g4 : C2.1 286 4 = nI t := (hFF.1.1 286 4 (by omega) (by omega) (by omega)).trans h71
    have g8 : C2.1 (C.2.2.2 286 3) 8 = x := (hFF.1.1 _ 8 (by omega) (by omega) (by omega)).trans hk8
    have g71 : S2.1 291 71 = nI t := (hFF.2.1.1 291 71 (by omega) (by omega)).trans (hre.2.2.2.2.2.2.2.2.symm.trans h71)
    obtain ⟨C3, S3, j1, j2, ⟨c1, c2, c3, c4⟩, ⟨s1, s2, s3, s4⟩, j5⟩ := qx_hit (w := w) (a := nI t) (v := s0) hx (qx_Hh_F (qx_Hh_F hH e2) d2) ht (qi_inbN (by omega) (by decide)) p3
    unfold fX4_visit_b93
    rw [show (2 : Int32) = nI 2 from rfl, d1, qx_bdS, if_pos rfl, hR2, hre.1, qc_gdt, g71, j2]
    have hl : qc_l62 (C.2.2.2 (C.2.2.2 286 3) 4) = true := by rcases h9 with z | z <;> (rw [z]; rfl)
    have h9n : ¬ C.2.2.2 (C.2.2.2 286 3) 4 = 9 := by rcases h9 with z | z <;> (rw [z]; decide)
    rw [hR2] at j1
    rw [hl, qc_gdt, if_neg h9n, qc_gdt, g4, g8, j1]
    refine ⟨true, C3, S3, m2, rfl, rfl, qx_FY hFF ?_, e3, fun _ => ⟨_, j5⟩⟩
    have i1 : ∀ a, a ≠ 281 → a ≠ 280 → C3.1 a = C2.1 a := fun a x y => funext fun k => c1 a k x (by omega)
    have j1 : ∀ a, a ≠ 333 → a ≠ 291 → S3.1 a = S2.1 a := fun a x y => funext fun k => s1 a k x (by omega)
    obtain ⟨k692, _, _⟩ := d2.2.2.2.2.2.1 rfl
    refine ⟨⟨fun a k _ _ x y => c1 a k y (by omega), fun a _ _ x y => by rw [c2], fun a _ _ x _ => c3 a x, c4⟩, ⟨fun a k x y z => s1 a k z (by omega), fun a k _ _ _ x y _ => by rw [s2], fun a _ _ _ x _ => s3 a x, s4⟩, fun k hk => by rw [s3 329 (by decide)]; exact d2.2.2.1 k hk, ?_, ?_, fun _ => ⟨(s1 291 69 (by decide) (by omega)).trans k692, ⟨c1 280 1 (by decide) (by omega), c1 280 2 (by decide) (by omega), c1 280 3 (by decide) (by omega)⟩, s1 291 79 (by decide) (by omega), s1 291 80 (by decide) (by omega)⟩, fun z => by cases z⟩
    · exact qx_W_co d2.2.2.2.1 (i1 258 (by decide) (by decide)) (i1 259 (by decide) (by decide)) (i1 260 (by decide) (by decide)) (by rw [c2]) (c3 262 (by decide)) (j1 292 (by decide) (by decide)) (j1 293 (by decide) (by decide)) (j1 294 (by decide) (by decide)) (by rw [s2]) (s3 296 (by decide)) (j1 330 (by decide) (by decide)) (by rw [s2]) (s3 332 (by decide)) (s1 291 73 (by decide) (by omega))
    · rw [c1 280 4 (by decide) (by omega), s2]
      exact d2.2.2.2.2.1
end
