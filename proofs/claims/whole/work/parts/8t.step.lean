/-! any act that jumps nowhere -/
def qx_re (w : qcW) (nr q : Nat) (C S : qcM) : Prop :=
  qc_io w (C.2.2.2 286 3) 6 = true ∧ qc_ia w (C.2.2.2 (C.2.2.2 286 3) 3) 102 = true ∧ 338 ≤ C.2.2.2 (C.2.2.2 286 3) 3 ∧ w.2.2 (C.2.2.2 (C.2.2.2 286 3) 3) = nr ∧ nr ≤ 100 ∧ q < 12 ∧ S.1 291 72 = nI q ∧
  (∀ i, i < nr → C.2.2.1 (C.2.2.2 (C.2.2.2 286 3) 3) i = S.2.2.1 305 (100 * q + i) ∧ qc_n64 (S.2.2.1 305 (100 * q + i)) = true) ∧ C.1 286 4 = S.1 291 71
section
variable {w : qcW} {C S : qcM} {o a : Int32} {L0 : Nat → Int64} {D0 : Nat → UInt64} {L1 : Nat → Int64} {D1 : Nat → UInt64} {rc : Int32} {m nr q : Nat} {s t : List Nat}
theorem qx_step (hst : qw_st nr o a s t) (hs : s.length ≤ 24) (ht : t.length ≤ 24) (hre : qx_re w nr q C S) (hN : qx_N S) (h69 : S.1 291 69 = 0) (hW : qx_W L0 D0 L1 D1 rc m C S) (hsto : ∀ l, l < 8 → o = nI (20 + l) → m < 16 ∧ ∃ c, c < 10 ∧ a = nI c ∧ C.1 258 c = rc) (hP : qx_pl s C S) : qx_T w L0 D0 L1 D1 rc m o a t C S := by
  obtain ⟨r1, r2, r3, r4, r5, r6, r7, r8, r9⟩ := hre
  obtain ⟨p1, p2, p3⟩ := hP
  rcases hst with ⟨rfl, h⟩ | ⟨rfl, rfl, h⟩ | ⟨rfl, rfl⟩ | ⟨l, r, h1, rfl, h2, rfl, rfl⟩ | ⟨l, r, h1, rfl, h2, rfl, rfl⟩ | ⟨g, k, r, g1, g2, k1, k2, rfl, rfl, rfl⟩ | ⟨g, k, r, g1, g2, k1, k2, rfl, rfl, rfl⟩ | ⟨g, r, g1, g2, rfl, rfl, rfl⟩ | ⟨g, k, r, g1, g2, k1, k2, rfl, rfl, rfl⟩ | ⟨k, r, k1, k2, rfl, rfl, rfl⟩ | ⟨k, r, k1, k2, rfl, rfl, rfl⟩ | ⟨k, r, k1, k2, rfl, rfl, rfl⟩ | ⟨r, rfl, rfl, rfl⟩ | ⟨j, r, j1, rfl, rfl, rfl⟩ | ⟨f, k, r, f1, f2, k1, k2, rfl, rfl, rfl⟩ | ⟨k, r, k1, k2, rfl, rfl, rfl⟩ | ⟨k, r, k1, k2, rfl, rfl, rfl⟩ | ⟨j, r, j1, j2, rfl, rfl, rfl⟩ | ⟨k, r, k1, k2, rfl, rfl, rfl⟩ | ⟨j, k, r, j1, j2, k1, k2, rfl, rfl, rfl⟩ | ⟨r, rfl, rfl, rfl⟩
  · rcases h with rfl | ⟨rfl, h⟩
    · exact qx_ofS p1 p2 h69 hW (qp_lay1 hN ht p3 (Or.inl rfl))
    · exact qx_ofS p1 p2 h69 hW (qp_lay1 hN ht p3 (Or.inr ⟨rfl, h⟩))
  · obtain ⟨i, i1, i2, -⟩ := qi_k h (by omega)
    obtain ⟨q1, q2⟩ := r8 i i1
    exact qx_ofS p1 p2 h69 hW (qp_lay2 hN ht p3 r1 r2 r3 r4 r5 i2 i1 r6 r7 q1 rfl ((qf_n64 _).mp q2))
  · exact qx_ofS p1 p2 h69 hW (qp_lay3 hN ht p3 r9)
  · exact qx_ofS p1 p2 h69 hW (qp_fetch hN h1 h2 hW.1 h69 hs p3)
  · obtain ⟨m1, c, c1, c2, c3⟩ := hsto l h1 rfl
    subst c2
    exact qx_store h1 c1 c3 m1 hs hN h69 hW ⟨p1, p2, p3⟩
  · exact qx_ofS p1 p2 h69 hW (qp_arith hN ⟨g1, g2⟩ ⟨k1, k2⟩ hs p3)
  · exact qx_ofS p1 p2 h69 hW (qp_bits hN ⟨g1, g2⟩ (Or.inr ⟨rfl, by omega⟩) hs p3)
  · exact qx_ofS p1 p2 h69 hW (qp_bits hN ⟨g1, g2⟩ (Or.inl ⟨rfl, rfl⟩) hs p3)
  · exact qx_ofS p1 p2 h69 hW (qp_shift hN ⟨g1, g2⟩ (by omega) hs p3)
  · exact qx_ofS p1 p2 h69 hW (qp_neg hN ⟨k1, k2⟩ hs p3)
  · exact qx_ofS p1 p2 h69 hW (qp_not hN (by omega) hs p3)
  · exact qx_ofS p1 p2 h69 hW (qp_comp hN (Or.inr ⟨rfl, k1, k2⟩) hs p3)
  · exact qx_ofS p1 p2 h69 hW (qp_comp (k := 0) (kk := 1) hN (Or.inl ⟨rfl, rfl⟩) hs p3)
  · exact qx_ofS p1 p2 h69 hW (qp_rel hN j1 hs p3)
  · exact qx_ofS p1 p2 h69 hW (qp_conv hN ⟨f1, f2⟩ ⟨k1, k2⟩ hs p3)
  · exact qx_ofS p1 p2 h69 hW (qp_cast hN ⟨k1, k2⟩ hs p3)
  · exact qx_ofS p1 p2 h69 hW (qp_func (j := 0) hN (Or.inl ⟨rfl, k1, k2⟩) hs p3)
  · have q := qx_ofS p1 p2 h69 hW (qp_func (w := w) (a := a) (j := j) (k := 4) hN (Or.inr (Or.inl ⟨j1, j2, rfl⟩)) hs p3)
    rwa [show 1700 + 10 * j + 4 = 1704 + 10 * j by omega] at q
  · exact qx_ofS p1 p2 h69 hW (qp_func (j := 4) hN (Or.inr (Or.inr ⟨rfl, k1, k2⟩)) hs p3)
  · exact qx_ofS p1 p2 h69 hW (qp_mmS hN (by omega) ⟨k1, k2⟩ hs p3)
  · exact qx_ofS p1 p2 h69 hW (qp_deny hN hs p3)
end
