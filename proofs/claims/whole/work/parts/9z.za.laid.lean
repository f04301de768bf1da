/-! the reference lays a node's code -/
section
variable {w : qcW} {I I0 : qTI} {L : qTL} {D : qTD} {R : qTR} {q p N c k : Nat} {T : qTs} {l : List (Nat × Nat)} {ds : List qDen} {out : qcO Unit}
theorem lF_n (h : lF q p I0 I) {a : Nat} (ha : 298 ≤ a ∧ a ≤ 304) (x : Nat) : I a x = I0 a x := h a x (by omega) (by omega) (by omega) (by omega)
theorem l_node (hS : lS q p I0) (hW : ∀ x d, ds[x]? = some d → nN I0 ds x d) (hds : ds.length ≤ 420) : ∀ x, lP w L D R q p I0 ds x := by
  intro x
  induction x using Nat.strongRecOn with
  | ind x ih =>
  intro d hd y0 T l I N h hT hN
  have hx : x < 420 := by have := (List.getElem?_eq_some_iff.mp hd).1; omega
  have hTl : T.length < 2000 := by omega
  obtain ⟨N, rfl⟩ : ∃ k, N = k + 1 := ⟨N - 1, by omega⟩
  have hp := (l_pop h).1
  rw [l_rd h hTl, if_pos (show (0 : Nat) = 0 from rfl)]
  refine lV_I (J := qc_u I 291 52 (nI T.length)) ?_ (qc_u_off _ _ (by decide))
  generalize qc_u I 291 52 (nI T.length) = I1 at hp
  have hn : nN I1 ds x d := nN_co (fun a h1 h2 => lF_n hp.1 ⟨h1, h2⟩ x) (hW x d hd)
  have hch : ∀ {a : Nat} {da : qDen}, ds[a]? = some da → (∀ {I' : qTI}, lF q p I0 I' → I' 303 a = nI da.1) ∧ da.1 ≤ 4 ∧ 1 ≤ da.2.2.1 ∧ a < 420 := fun {a da} ha => by
    obtain ⟨⟨a1, a2, a3, a4, a5, a6⟩, -⟩ := hW a da ha
    refine ⟨fun hf => (lF_n hf (by decide) a).trans a1, a3, by omega, by have := (List.getElem?_eq_some_iff.mp ha).1; omega⟩
  have hg : qc_inb (nI x) 420 = true := qi_inbN hx (by decide)
  have hcl : (nI x).toNatClampNeg = x := nI_clamp (by omega)
  show lV w L D R q p I0 (2 * x + 2) I1 T _ (N + 1) (8 * d.2.2.1) (qc_bd (fX12_unfold w I1 L D R (nI x)) fun _ I L D R => fX12_layAll_l12 w N (I, L, D, R))
  obtain ⟨⟨b1, b2, b3, b4, b5, b6⟩, hform⟩ := hn
  -- from the tasks on
  have go : ∀ {I2 : qTI} {T2 : qTs} {c' : Nat}, fX12_unfold w I1 L D R (nI x) = some ((), I2, L, D, R) → I2 327 = I1 327 → lV w L D R q p I0 (2 * x + 2) I2 T (l ++ qs_sh l.length d.2.2.2) N c' (fX12_layAll_l12 w N (I2, L, D, R)) → c' + 1 ≤ 8 * d.2.2.1 → lV w L D R q p I0 (2 * x + 2) I1 T (l ++ qs_sh l.length d.2.2.2) (N + 1) (8 * d.2.2.1) (qc_bd (fX12_unfold w I1 L D R (nI x)) fun _ I L D R => fX12_layAll_l12 w N (I, L, D, R)) := fun {I2 T2 c'} e1 e2 hv hc => by
    rw [e1, qc_bds]
    exact lV_k (lV_N (lV_I hv e2)) (Nat.le_refl _) hc
  have u307 : ∀ k : Nat, k < 18 → I1 298 x = nI k → k = 10 ∨ k = 11 ∨ k = 13 → fX12_unfold w I1 L D R (nI x) = fX12_unfoldJumps w I1 L D R (nI x) (I1 299 x) (I1 300 x) (I1 303 x) := fun k _ hk hor => by
    unfold fX12_unfold fX12_unfold_b307
    rw [hg, qc_gdt, qc_gdt, qc_gdt, qc_gdt, hcl, hk]
    have e : ∀ out : qcO Unit, (qc_bd out fun _ I L D R => some ((), I, L, D, R)) = out := fun out => qc_bd_id out
    rcases hor with z | z | z
    · subst z; exact e _
    · subst z; exact e _
    · subst z; exact e _
  have jump : ∀ {a e : Nat} (v : Nat), v ≤ 1 → I1 298 x = nI (10 + v) → a < x → e < x → T.length + 10 ≤ 1990 → ∃ I2, fX12_unfoldJumps w I1 L D R (nI x) (nI a) (nI e) (I1 303 x) = some ((), I2, L, D, R) ∧ lR q p I0 ((0, nI a, 0) :: (3, nI (1800 + v), nI (2 * x)) :: (0, nI e, 0) :: (3, nI 1802, nI (2 * x + 1)) :: (4, nI (2 * x), 0) :: (2, nI 1, nI v) :: (4, nI (2 * x + 1), 0) :: T) l I2 ∧ I2 327 = I1 327 := fun {a e} v hv f1 ha he hTT => by
    obtain ⟨A1, a1, a2, a3⟩ := l_task (w := w) (L := L) (D := D) (R := R) hp (s := 4) (by decide) (by omega) (nI (2 * x + 1)) 0
    obtain ⟨A2, c1, c2, c3⟩ := l_task (w := w) (L := L) (D := D) (R := R) a2 (s := 2) (by decide) (by simp only [List.length_cons]; omega) (nI 1) (nI v)
    obtain ⟨A3, d1, d2, d3⟩ := l_task (w := w) (L := L) (D := D) (R := R) c2 (s := 4) (by decide) (by simp only [List.length_cons]; omega) (nI (2 * x)) 0
    obtain ⟨A4, e1, e2, e3⟩ := l_task (w := w) (L := L) (D := D) (R := R) d2 (s := 3) (by decide) (by simp only [List.length_cons]; omega) (nI 1802) (nI (2 * x + 1))
    obtain ⟨A5, g1, g2, g3⟩ := l_task (w := w) (L := L) (D := D) (R := R) e2 (s := 0) (by decide) (by simp only [List.length_cons]; omega) (nI e) 0
    obtain ⟨A6, n1, n2, n3⟩ := l_task (w := w) (L := L) (D := D) (R := R) g2 (s := 3) (by decide) (by simp only [List.length_cons]; omega) (nI (1800 + v)) (nI (2 * x))
    obtain ⟨A7, o1, o2, o3⟩ := l_task (w := w) (L := L) (D := D) (R := R) n2 (s := 0) (by decide) (by simp only [List.length_cons]; omega) (nI a) 0
    refine ⟨A7, ?_, o2, o3.trans (n3.trans (g3.trans (e3.trans (d3.trans (c3.trans a3)))))⟩
    have z298 : ∀ {I' : qTI}, lF q p I0 I' → I' 298 x = nI (10 + v) := fun hf => (lF_n hf (by decide) x).trans ((lF_n hp.1 (by decide) x).symm.trans f1)
    have a1 : fX12_task w I1 L D R 4 (nI (2 * x + 1)) 0 = some ((), A1, L, D, R) := a1
    have c1 : fX12_task w A1 L D R 2 1 (nI v) = some ((), A2, L, D, R) := c1
    have d1 : fX12_task w A2 L D R 4 (nI (2 * x)) 0 = some ((), A3, L, D, R) := d1
    have e1 : fX12_task w A3 L D R 3 1802 (nI (2 * x + 1)) = some ((), A4, L, D, R) := e1
    have g1 : fX12_task w A4 L D R 0 (nI e) 0 = some ((), A5, L, D, R) := g1
    have n1 : fX12_task w A5 L D R 3 (nI (1800 + v)) (nI (2 * x)) = some ((), A6, L, D, R) := n1
    have o1 : fX12_task w A6 L D R 0 (nI a) 0 = some ((), A7, L, D, R) := o1
    have q1 : (2 : Int32) * nI x = nI (2 * x) := qi_mul 2 x
    have q2 : (2 : Int32) * nI x + 1 = nI (2 * x + 1) := by rw [q1]; exact qi_s1 _
    have ne13 : ¬ nI (10 + v) = 13 := fun u => by have := qi_nI_inj (j := 13) (by omega) (by decide) u; omega
    unfold fX12_unfoldJumps fX12_unfoldJumps_b16 fX12_unfoldJumps_b68 fX12_unfoldJumps_b71 fX12_unfoldJumps_b121 fX12_unfoldJumps_b137
    rw [hg, qc_gdt, hcl, f1, q2, q1, a1]
    rcases (show v = 0 ∨ v = 1 by omega) with z | z
    · subst z
      have c1 : fX12_task w A1 L D R 2 1 0 = some ((), A2, L, D, R) := c1
      have n1 : fX12_task w A5 L D R 3 1800 (nI (2 * x)) = some ((), A6, L, D, R) := n1
      rw [if_neg (show ¬ nI (10 + 0) = 11 by decide), qc_bds, qc_gdt, z298 a2.1, if_neg ne13, if_pos rfl, c1, qc_bds, d1, qc_bds, e1, qc_bds, qc_gdt, z298 e2.1, if_neg ne13, g1, qc_bds, if_pos rfl, n1, qc_bds, o1, qc_bds]
    · subst z
      have c1 : fX12_task w A1 L D R 2 1 1 = some ((), A2, L, D, R) := c1
      have n1 : fX12_task w A5 L D R 3 1801 (nI (2 * x)) = some ((), A6, L, D, R) := n1
      rw [if_pos (show nI (10 + 1) = 11 from rfl), qc_bds, qc_gdt, z298 a2.1, if_neg ne13, if_neg (show ¬ (1 : Int32) = 0 by decide), c1, qc_bds, d1, qc_bds, e1, qc_bds, qc_gdt, z298 e2.1, if_neg ne13, g1, qc_bds, if_neg (show ¬ (1 : Int32) = 0 by decide), n1, qc_bds, o1, qc_bds]
  rcases hform with ⟨v, h1, h2, h3⟩ | ⟨v, h1, h2, h3⟩ | ⟨h1, h3⟩ | ⟨ln, cc, h1, h2, h4, h5, h6, h3⟩ | ⟨ln, cc, a, da, h1, h2, h4, h5, h6, h7, h8, h3⟩ | ⟨a, e, da, de, v, h1, h2, h4, h5, h6, h7, h8, hf⟩ | ⟨a, e, g, da, de, dg, h1, h2, h4, h5, h6, h7, h8, h9, ha, hb, h3⟩ | ⟨a, da, v, h1, h2, h4, h5, hf⟩
  · -- a number, a truth
    have e1 : fX12_unfold w I1 L D R (nI x) = qc_bd (fX12_emit w I1 L D R (nI 1) (nI v)) fun _ I L D R => some ((), I, L, D, R) := by
      unfold fX12_unfold fX12_unfold_b100
      rcases h1 with h1 | h1
      · rw [hg, qc_gdt, qc_gdt, qc_gdt, qc_gdt, hcl, h1, h2]; rfl
      · rw [hg, qc_gdt, qc_gdt, qc_gdt, qc_gdt, hcl, h1, h2]; rfl
    have ec : qs_sh l.length d.2.2.2 = [(1, v)] := by rw [h3]; rfl
    rw [e1, bd_i, ec]
    exact lV_k (lV_N (l_em hS hp (by omega) 1 v)) (by omega) (by omega)
  · have e1 : fX12_unfold w I1 L D R (nI x) = qc_bd (fX12_emit w I1 L D R (nI 2) (nI v)) fun _ I L D R => some ((), I, L, D, R) := by
      unfold fX12_unfold
      rw [hg, qc_gdt, qc_gdt, qc_gdt, qc_gdt, hcl, h1, h2]; rfl
    have ec : qs_sh l.length d.2.2.2 = [(2, v)] := by rw [h3]; rfl
    rw [e1, bd_i, ec]
    exact lV_k (lV_N (l_em hS hp (by omega) 2 v)) (by omega) (by omega)
  · have e1 : fX12_unfold w I1 L D R (nI x) = qc_bd (fX12_emit w I1 L D R (nI 3) (nI 0)) fun _ I L D R => some ((), I, L, D, R) := by
      unfold fX12_unfold
      rw [hg, qc_gdt, qc_gdt, qc_gdt, qc_gdt, hcl, h1]; rfl
    have ec : qs_sh l.length d.2.2.2 = [(3, 0)] := by rw [h3]; rfl
    rw [e1, bd_i, ec]
    exact lV_k (lV_N (l_em hS hp (by omega) 3 0)) (by omega) (by omega)
  · -- a cell of the object
    obtain ⟨I2, t1, t2, t3⟩ := l_task (w := w) (L := L) (D := D) (R := R) hp (s := 2) (by decide) hTl (nI (10 + ln)) (nI cc)
    have t1 : fX12_task w I1 L D R 2 (nI (10 + ln)) (nI cc) = some ((), I2, L, D, R) := t1
    have e1 : fX12_unfold w I1 L D R (nI x) = qc_bd (fX12_emit w I2 L D R (nI 3) (nI 0)) fun _ I L D R => some ((), I, L, D, R) := by
      unfold fX12_unfold
      rw [hg, qc_gdt, qc_gdt, qc_gdt, qc_gdt, hcl, h1, h2, h4, h5, show (10 : Int32) + nI ln = nI (10 + ln) from nI_add 10 ln, t1]; rfl
    have ec : qs_sh l.length d.2.2.2 = [(3, 0), (10 + ln, cc)] := by
      rw [h3]
      show qs_sh l.length ([(3, 0)] ++ [(10 + ln, cc)]) = _
      rw [qs_sh_nj (qs_nj_app (qs_nj_1 (by omega)) (qs_nj_1 (by omega)))]; rfl
    rw [e1, bd_i, ec]
    refine lV_I (J := I2) ?_ t3
    have hv := l_em (w := w) (L := L) (D := D) (R := R) (N := N) hS t2 (by omega) 3 0
    refine lV_k (c := 2) (k := 0) (lV_N (lV_b (k2 := 0) (c2 := 1) hv (by simp only [List.length_append, List.length_cons, List.length_nil]; omega) (Nat.le_refl _) (Nat.le_refl _) (Nat.le_refl _) (fun _ N3 I3 r3 j3 n3 => ?_))) (by omega) (by omega)
    have v2 := lt_2 (w := w) (L := L) (D := D) (R := R) (N := N3) hS r3 hTl (by omega)
    rw [List.append_assoc] at v2
    exact v2
  · -- a cell by an index
    obtain ⟨g1, g2, g3, g4⟩ := hch h8
    obtain ⟨I2, t1, t2, t3⟩ := l_task (w := w) (L := L) (D := D) (R := R) hp (s := 2) (by decide) hTl (nI (10 + ln)) (nI cc)
    have t1 : fX12_task w I1 L D R 2 (nI (10 + ln)) (nI cc) = some ((), I2, L, D, R) := t1
    obtain ⟨I3, u1, u2, u3⟩ := l_task (w := w) (L := L) (D := D) (R := R) t2 (s := 0) (by decide) (by rw [List.length_cons]; omega) (nI a) 0
    have u1 : fX12_task w I2 L D R 0 (nI a) 0 = some ((), I3, L, D, R) := u1
    have hsz : d.2.2.1 = da.2.2.1 + 1 := by rw [h3]; rfl
    have e1 : fX12_unfold w I1 L D R (nI x) = some ((), I3, L, D, R) := by
      unfold fX12_unfold
      have hne : ¬ nI a = (-1 : Int32) := qi_nI_m1 (by omega)
      rw [hg, qc_gdt, qc_gdt, qc_gdt, qc_gdt, hcl, h1, h2, h4, h5, show (10 : Int32) + nI ln = nI (10 + ln) from nI_add 10 ln, t1]
      show (qc_gd true <| if nI a = (-1 : Int32) then _ else _) = _
      rw [qc_gdt, if_neg hne, u1, qc_bds]
    refine go (T2 := T) e1 (u3.trans t3) ?_ (c' := 8 * (da.2.2.1 + 1) - 1) (by omega)
    rw [h3]
    exact l_one0 hS ih h7 h8 g2 (qs_nj_1 (by omega)) u2 (by omega) (by omega)
  · -- two
    obtain ⟨g1, g2, g3, g4⟩ := hch h7
    obtain ⟨k1, k2, k3, k4⟩ := hch h8
    have hmx : max da.1 de.1 ≤ 4 := Nat.max_le.mpr ⟨g2, k2⟩
    have hko : qs_ko (max da.1 de.1) ≤ 4 := by unfold qs_ko; omega
    -- tasks of both
    have both : ∀ {I2 : qTI} {T2 : qTs} {kx ky : Nat}, lR q p I0 T2 l I2 → T2.length < 1990 - 2 → ∃ I3 I4, fX12_taskOfKind w I2 L D R (nI e) (nI ky) = some ((), I3, L, D, R) ∧ fX12_taskOfKind w I3 L D R (nI a) (nI kx) = some ((), I4, L, D, R) ∧ lR q p I0 ((0, nI a, 0) :: (1, nI da.1, nI kx) :: (0, nI e, 0) :: (1, nI de.1, nI ky) :: T2) l I4 ∧ I4 327 = I2 327 := fun {I2 T2 kx ky} hr hl => by
      obtain ⟨I3, u1, u2, u3⟩ := l_tok (w := w) (L := L) (D := D) (R := R) hr k4 (k1 hr.1) (by omega) (nI ky)
      obtain ⟨I4, v1, v2, v3⟩ := l_tok (w := w) (L := L) (D := D) (R := R) u2 g4 (g1 u2.1) (by simp only [List.length_cons]; omega) (nI kx)
      exact ⟨I3, I4, u1, v1, v2, v3.trans u3⟩
    rcases hf with ⟨f1, fv, f2⟩ | ⟨f1, fv, f2⟩ | ⟨f1, fv, f2⟩ | ⟨f1, f2⟩ | ⟨f1, f2⟩
    · have hsz : d.2.2.1 = da.2.2.1 + de.2.2.1 + 1 := by rw [f2]; rfl
      have hk : I1 303 x = nI (max da.1 de.1) := by rw [b1, f2]; rfl
      obtain ⟨I2, t1, t2, t3⟩ := l_task (w := w) (L := L) (D := D) (R := R) hp (s := 2) (by decide) hTl (nI (v + qs_ko (max da.1 de.1))) (nI 0)
      have t1 : fX12_task w I1 L D R 2 (nI (v + qs_ko (max da.1 de.1))) 0 = some ((), I2, L, D, R) := t1
      obtain ⟨I3, I4, u1, u2, u3, u4⟩ := both (kx := max da.1 de.1) (ky := max da.1 de.1) t2 (by rw [List.length_cons]; omega)
      have e1 : fX12_unfold w I1 L D R (nI x) = some ((), I4, L, D, R) := by
        unfold fX12_unfold
        rw [hg, qc_gdt, qc_gdt, qc_gdt, qc_gdt, hcl, f1, h1, h2, h4, hk]
        show (qc_gd true <| qc_bd (fX12_kindOp w I1 L D R (nI (max da.1 de.1))) _) = _
        rw [qc_gdt, mq_ko hmx, qc_bds, nI_add, t1, qc_bds, u1, qc_bds, u2, qc_bds]
      refine go (T2 := T) e1 (u4.trans t3) ?_ (c' := 8 * (da.2.2.1 + de.2.2.1 + 1) - 1) (by omega)
      rw [f2]
      exact l_two (Tt := [(2, nI (v + qs_ko (max da.1 de.1)), nI 0)]) hS ih h5 h6 h7 h8 g2 k2 hmx hmx (qs_nj_1 (by omega)) g3 k3 u3 (by omega) (show 1 ≤ 2 by decide) (by omega) (fun N' I' l' hr hn => lV_k (lt_2 hS hr hTl (by omega)) (Nat.le_refl _) (by decide))
    · -- a comparison
      have hsz : d.2.2.1 = da.2.2.1 + de.2.2.1 + 1 := by rw [f2]; rfl
      obtain ⟨I2, t1, t2, t3⟩ := l_task (w := w) (L := L) (D := D) (R := R) hp (s := 2) (by decide) hTl (nI (1500 + v)) (nI 0)
      have t1 : fX12_task w I1 L D R 2 (nI (1500 + v)) 0 = some ((), I2, L, D, R) := t1
      obtain ⟨I5, s1, s2, s3⟩ := l_task (w := w) (L := L) (D := D) (R := R) t2 (s := 2) (by decide) (by rw [List.length_cons]; omega) (nI (1400 + qs_ko (max da.1 de.1))) (nI 0)
      have s1 : fX12_task w I2 L D R 2 (nI (1400 + qs_ko (max da.1 de.1))) 0 = some ((), I5, L, D, R) := s1
      obtain ⟨I3, I4, u1, u2, u3, u4⟩ := both (kx := max da.1 de.1) (ky := max da.1 de.1) s2 (by simp only [List.length_cons]; omega)
      have e1 : fX12_unfold w I1 L D R (nI x) = some ((), I4, L, D, R) := by
        unfold fX12_unfold
        rw [hg, qc_gdt, qc_gdt, qc_gdt, qc_gdt, hcl, f1, h1, h2, h4]
        show (qc_gd (qc_inb (nI a) 420) <| qc_gd (qc_inb (nI e) 420) <| qc_bd (fX12_later w I1 L D R (I1 303 (Int32.toNatClampNeg (nI a))) (I1 303 (Int32.toNatClampNeg (nI e)))) fun r31 I31 L31 D31 R31 => qc_gd true <| qc_bd (fX12_task w I31 L31 D31 R31 (2 : Int32) ((1500 : Int32) + (I31 302 x)) (0 : Int32)) fun r33 I33 L33 D33 R33 => qc_bd (fX12_kindOp w I33 L33 D33 R33 r31) fun r34 I34 L34 D34 R34 => qc_bd (fX12_task w I34 L34 D34 R34 (2 : Int32) ((1400 : Int32) + r34) (0 : Int32)) fun r35 I35 L35 D35 R35 => qc_bd (fX12_taskOfKind w I35 L35 D35 R35 (nI e) r31) fun r36 I36 L36 D36 R36 => qc_bd (fX12_taskOfKind w I36 L36 D36 R36 (nI a) r31) fun r37 I37 L37 D37 R37 => some ((), I37, L37, D37, R37)) = _
        rw [qi_inbN g4 (by decide), qi_inbN k4 (by decide), qc_gdt, qc_gdt, nI_clamp (show a < 2 ^ 31 by omega), nI_clamp (show e < 2 ^ 31 by omega), g1 hp.1, k1 hp.1, mq_later g2 k2, qc_bds, qc_gdt, h4, show (1500 : Int32) + nI v = nI (1500 + v) from nI_add 1500 v, t1, qc_bds, mq_ko hmx, qc_bds, show (1400 : Int32) + nI (qs_ko (max da.1 de.1)) = nI (1400 + qs_ko (max da.1 de.1)) from nI_add 1400 _, s1, qc_bds, u1, qc_bds, u2, qc_bds]
      refine go (T2 := T) e1 (u4.trans (s3.trans t3)) ?_ (c' := 8 * (da.2.2.1 + de.2.2.1 + 1) - 1) (by omega)
      rw [f2]
      refine l_two (Tt := [(2, nI (1400 + qs_ko (max da.1 de.1)), nI 0), (2, nI (1500 + v), nI 0)]) hS ih h5 h6 h7 h8 g2 k2 hmx hmx (qs_nj_app (l := [_]) (qs_nj_1 (by omega)) (qs_nj_1 (by omega))) g3 k3 u3 (by omega) (show 2 ≤ 2 by decide) (by omega) (fun N' I' l' hr hn => ?_)
      have v1 := lt_2 (w := w) (L := L) (D := D) (R := R) (N := N') hS hr (show T.length + 1 < 2000 by omega) (by omega)
      refine lV_b (k2 := 0) (c2 := 1) v1 (by simp only [List.length_append, List.length_cons, List.length_nil]; omega) (Nat.le_refl _) (Nat.le_refl _) (by decide) (fun _ N3 I6 r3 j3 n3 => ?_)
      have v2 := lt_2 (w := w) (L := L) (D := D) (R := R) (N := N3) hS r3 hTl (by omega)
      rw [List.append_assoc] at v2
      exact v2
    · -- a shift
      have hsz : d.2.2.1 = da.2.2.1 + de.2.2.1 + 1 := by rw [f2]; rfl
      have hk : I1 303 x = nI da.1 := by rw [b1, f2]; rfl
      obtain ⟨I2, t1, t2, t3⟩ := l_task (w := w) (L := L) (D := D) (R := R) hp (s := 2) (by decide) hTl (nI (v + da.1)) (nI 0)
      have t1 : fX12_task w I1 L D R 2 (nI (v + da.1)) 0 = some ((), I2, L, D, R) := t1
      obtain ⟨I3, I4, u1, u2, u3, u4⟩ := both (kx := da.1) (ky := 1) t2 (by rw [List.length_cons]; omega)
      have u1 : fX12_taskOfKind w I2 L D R (nI e) 1 = some ((), I3, L, D, R) := u1
      have e1 : fX12_unfold w I1 L D R (nI x) = some ((), I4, L, D, R) := by
        unfold fX12_unfold
        rw [hg, qc_gdt, qc_gdt, qc_gdt, qc_gdt, hcl, f1, h1, h2, h4, hk]
        show (qc_gd true <| qc_bd (fX12_task w I1 L D R 2 (nI v + nI da.1) 0) _) = _
        rw [qc_gdt, nI_add, t1, qc_bds, u1, qc_bds, u2, qc_bds]
      refine go (T2 := T) e1 (u4.trans t3) ?_ (c' := 8 * (da.2.2.1 + de.2.2.1 + 1) - 1) (by omega)
      rw [f2]
      exact l_two (Tt := [(2, nI (v + da.1), nI 0)]) hS ih h5 h6 h7 h8 g2 k2 g2 (by decide) (qs_nj_1 (by omega)) g3 k3 u3 (by omega) (show 1 ≤ 2 by decide) (by omega) (fun N' I' l' hr hn => lV_k (lt_2 hS hr hTl (by omega)) (Nat.le_refl _) (by decide))
    · -- and
      have hsz : d.2.2.1 = da.2.2.1 + de.2.2.1 + 1 := by rw [f2]; rfl
      obtain ⟨I2, u1, u2, u3⟩ := jump 0 (by decide) f1 h5 h6 (by omega)
      refine go (T2 := T) (by rw [u307 10 (by decide) f1 (Or.inl rfl), h1, h2]; exact u1) u3 ?_ (c' := 8 * (da.2.2.1 + de.2.2.1 + 1) - 1) (by omega)
      rw [f2]
      exact l_lg hS ih h5 h6 h7 h8 g3 k3 hx (by decide) u2 (by omega) (by omega)
    · have hsz : d.2.2.1 = da.2.2.1 + de.2.2.1 + 1 := by rw [f2]; rfl
      obtain ⟨I2, u1, u2, u3⟩ := jump 1 (by decide) f1 h5 h6 (by omega)
      refine go (T2 := T) (by rw [u307 11 (by decide) f1 (Or.inr (Or.inl rfl)), h1, h2]; exact u1) u3 ?_ (c' := 8 * (da.2.2.1 + de.2.2.1 + 1) - 1) (by omega)
      rw [f2]
      exact l_lg hS ih h5 h6 h7 h8 g3 k3 hx (by decide) u2 (by omega) (by omega)
  · -- a choice
    obtain ⟨g1, g2, g3, g4⟩ := hch h9
    obtain ⟨k1, k2, k3, k4⟩ := hch ha
    obtain ⟨m1, m2, m3, m4⟩ := hch hb
    have hmx : max de.1 dg.1 ≤ 4 := Nat.max_le.mpr ⟨k2, m2⟩
    have hsz : d.2.2.1 = da.2.2.1 + de.2.2.1 + dg.2.2.1 + 1 := by rw [h3]; rfl
    have hk : I1 303 x = nI (max de.1 dg.1) := by rw [b1, h3]; rfl
    obtain ⟨A1, a1, a2, a3⟩ := l_task (w := w) (L := L) (D := D) (R := R) hp (s := 4) (by decide) (by omega) (nI (2 * x + 1)) 0
    obtain ⟨A2, c1, c2, c3⟩ := l_tok (w := w) (L := L) (D := D) (R := R) a2 m4 (m1 a2.1) (by simp only [List.length_cons]; omega) (nI (max de.1 dg.1))
    obtain ⟨A3, d1, d2, d3⟩ := l_task (w := w) (L := L) (D := D) (R := R) c2 (s := 4) (by decide) (by simp only [List.length_cons]; omega) (nI (2 * x)) 0
    obtain ⟨A4, e1, e2, e3⟩ := l_task (w := w) (L := L) (D := D) (R := R) d2 (s := 3) (by decide) (by simp only [List.length_cons]; omega) (nI 1802) (nI (2 * x + 1))
    obtain ⟨A5, f1, f2, f3⟩ := l_tok (w := w) (L := L) (D := D) (R := R) e2 k4 (k1 e2.1) (by simp only [List.length_cons]; omega) (nI (max de.1 dg.1))
    obtain ⟨A6, n1, n2, n3⟩ := l_task (w := w) (L := L) (D := D) (R := R) f2 (s := 3) (by decide) (by simp only [List.length_cons]; omega) (nI 1800) (nI (2 * x))
    obtain ⟨A7, o1, o2, o3⟩ := l_task (w := w) (L := L) (D := D) (R := R) n2 (s := 0) (by decide) (by simp only [List.length_cons]; omega) (nI a) 0
    have eu : fX12_unfoldJumps w I1 L D R (nI x) (nI a) (nI e) (nI (max de.1 dg.1)) = some ((), A7, L, D, R) := by
      have z298 : ∀ {I' : qTI}, lF q p I0 I' → I' 298 x = 13 := fun hf => (lF_n hf (by decide) x).trans ((lF_n hp.1 (by decide) x).symm.trans h1)
      have z301 : ∀ {I' : qTI}, lF q p I0 I' → I' 301 x = nI g := fun hf => (lF_n hf (by decide) x).trans ((lF_n hp.1 (by decide) x).symm.trans h5)
      have a1 : fX12_task w I1 L D R 4 (nI (2 * x + 1)) 0 = some ((), A1, L, D, R) := a1
      have d1 : fX12_task w A2 L D R 4 (nI (2 * x)) 0 = some ((), A3, L, D, R) := d1
      have e1 : fX12_task w A3 L D R 3 1802 (nI (2 * x + 1)) = some ((), A4, L, D, R) := e1
      have n1 : fX12_task w A5 L D R 3 1800 (nI (2 * x)) = some ((), A6, L, D, R) := n1
      have o1 : fX12_task w A6 L D R 0 (nI a) 0 = some ((), A7, L, D, R) := o1
      have q1 : (2 : Int32) * nI x = nI (2 * x) := qi_mul 2 x
      have q2 : (2 : Int32) * nI x + 1 = nI (2 * x + 1) := by rw [q1]; exact qi_s1 _
      unfold fX12_unfoldJumps fX12_unfoldJumps_b16 fX12_unfoldJumps_b71 fX12_unfoldJumps_b121 fX12_unfoldJumps_b137
      rw [hg, qc_gdt, hcl, h1, if_neg (by decide), q2, q1, a1, qc_bds, qc_gdt, z298 a2.1, if_pos rfl, qc_gdt, z301 a2.1, c1, qc_bds, d1, qc_bds, e1, qc_bds, qc_gdt, z298 e2.1, if_pos rfl, f1, qc_bds, if_pos rfl, n1, qc_bds, o1, qc_bds]
    refine go (T2 := T) (by rw [u307 13 (by decide) h1 (Or.inr (Or.inr rfl)), h2, h4, hk]; exact eu) (o3.trans (n3.trans (f3.trans (e3.trans (d3.trans (c3.trans a3)))))) ?_ (c' := 8 * (da.2.2.1 + de.2.2.1 + dg.2.2.1 + 1) - 1) (by omega)
    rw [h3]
    exact l_ch hS ih h6 h7 h8 h9 ha hb g3 k3 m3 k2 m2 hmx hx o2 (by omega) (by omega)
  · -- one
    obtain ⟨g1, g2, g3, g4⟩ := hch h5
    have z298 : ∀ {v : Int32}, I1 298 x = v → fX12_unfold w I1 L D R (nI x) = (if v = 8 ∨ v = 9 ∨ v = 12 ∨ v = 14 ∨ v = 15 ∨ v = 16 ∨ v = 17 then fX12_unfold_b319 w I1 L D R (nI x) (nI a) (I1 303 x) else fX12_unfold w I1 L D R (nI x)) := fun {v} hv => by
      by_cases z : v = 8 ∨ v = 9 ∨ v = 12 ∨ v = 14 ∨ v = 15 ∨ v = 16 ∨ v = 17
      · rw [if_pos z]
        unfold fX12_unfold
        rw [hg, qc_gdt, qc_gdt, qc_gdt, qc_gdt, hcl, hv, h1]
        rcases z with z | z | z | z | z | z | z
        all_goals (subst z; rfl)
      · rw [if_neg z]
    have hsz : ∀ {k kc : Nat} {t : List (Nat × Nat)}, d = d_un k kc t da → d.2.2.1 = da.2.2.1 + 1 := fun e => by rw [e]; rfl
    -- (2, o, 0), then the node
    have un0 : ∀ {k o : Nat}, d = d_un k da.1 [(o, 0)] da → o < 1800 ∨ 1802 < o → (∀ I2 I3, fX12_task w I1 L D R 2 (nI o) 0 = some ((), I2, L, D, R) → fX12_task w I2 L D R 0 (nI a) 0 = some ((), I3, L, D, R) → fX12_unfold w I1 L D R (nI x) = some ((), I3, L, D, R)) → lV w L D R q p I0 (2 * x + 2) I1 T (l ++ qs_sh l.length d.2.2.2) (N + 1) (8 * d.2.2.1) (qc_bd (fX12_unfold w I1 L D R (nI x)) fun _ I L D R => fX12_layAll_l12 w N (I, L, D, R)) := fun {k o} hd2 ho hu => by
      obtain ⟨I2, t1, t2, t3⟩ := l_task (w := w) (L := L) (D := D) (R := R) hp (s := 2) (by decide) hTl (nI o) (nI 0)
      obtain ⟨I3, u1, u2, u3⟩ := l_task (w := w) (L := L) (D := D) (R := R) t2 (s := 0) (by decide) (by rw [List.length_cons]; omega) (nI a) 0
      have hs := hsz hd2
      refine go (T2 := T) (hu I2 I3 t1 u1) (u3.trans t3) ?_ (c' := 8 * (da.2.2.1 + 1) - 1) (by omega)
      rw [hd2]
      exact l_one0 hS ih h4 h5 g2 (qs_nj_1 ho) u2 (by omega) (by omega)
    have un1 : ∀ {k kc o : Nat}, d = d_un k kc [(o, 0)] da → kc ≤ 4 → o < 1800 ∨ 1802 < o → (∀ I2 I3, fX12_task w I1 L D R 2 (nI o) 0 = some ((), I2, L, D, R) → fX12_taskOfKind w I2 L D R (nI a) (nI kc) = some ((), I3, L, D, R) → fX12_unfold w I1 L D R (nI x) = some ((), I3, L, D, R)) → lV w L D R q p I0 (2 * x + 2) I1 T (l ++ qs_sh l.length d.2.2.2) (N + 1) (8 * d.2.2.1) (qc_bd (fX12_unfold w I1 L D R (nI x)) fun _ I L D R => fX12_layAll_l12 w N (I, L, D, R)) := fun {k kc o} hd2 hkc ho hu => by
      obtain ⟨I2, t1, t2, t3⟩ := l_task (w := w) (L := L) (D := D) (R := R) hp (s := 2) (by decide) hTl (nI o) (nI 0)
      obtain ⟨I3, u1, u2, u3⟩ := l_tok (w := w) (L := L) (D := D) (R := R) t2 g4 (g1 t2.1) (by rw [List.length_cons]; omega) (nI kc)
      have hs := hsz hd2
      refine go (T2 := T) (hu I2 I3 t1 u1) (u3.trans t3) ?_ (c' := 8 * (da.2.2.1 + 1) - 1) (by omega)
      rw [hd2]
      exact l_one hS ih h4 h5 g2 hkc (qs_nj_1 ho) u2 (by omega) (by omega)
    rcases hf with ⟨f1, f2⟩ | ⟨f1, f2⟩ | ⟨f1, f2⟩ | ⟨f1, f2⟩ | ⟨f1, fv, f2⟩ | ⟨f1, f2⟩ | ⟨f1, fv, f2⟩
    · have hk : I1 303 x = nI da.1 := by rw [b1, f2]; rfl
      refine un0 f2 (by omega) (fun I2 I3 t1 u1 => ?_)
      rw [z298 f1, if_pos (by decide), hk]
      unfold fX12_unfold_b319 fX12_unfoldOne
      rw [hg, qc_gdt, hcl, f1, if_pos rfl, show (1200 : Int32) + nI da.1 = nI (1200 + da.1) from nI_add 1200 _, t1, qc_bds, u1, qc_bds, qc_bds]
    · have hk : I1 303 x = nI da.1 := by rw [b1, f2]; rfl
      refine un0 f2 (by omega) (fun I2 I3 t1 u1 => ?_)
      rw [z298 f1, if_pos (by decide), hk]
      unfold fX12_unfold_b319 fX12_unfoldOne
      rw [hg, qc_gdt, hcl, f1, if_neg (by decide), if_pos rfl, show (1300 : Int32) + nI da.1 = nI (1300 + da.1) from nI_add 1300 _, t1, qc_bds, u1, qc_bds, qc_bds]
    · refine un0 f2 (by omega) (fun I2 I3 t1 u1 => ?_)
      have t1 : fX12_task w I1 L D R 2 1810 0 = some ((), I2, L, D, R) := t1
      rw [z298 f1, if_pos (by decide)]
      unfold fX12_unfold_b319 fX12_unfoldOne
      rw [hg, qc_gdt, hcl, f1, if_neg (by decide), if_neg (by decide), if_neg (by decide), if_neg (by decide), if_pos rfl, t1, qc_bds, u1, qc_bds, qc_bds]
    · have hk : I1 303 x = nI da.1 := by rw [b1, f2]; rfl
      refine un0 f2 (by omega) (fun I2 I3 t1 u1 => ?_)
      rw [z298 f1, if_pos (by decide), hk]
      unfold fX12_unfold_b319 fX12_unfoldOne
      rw [hg, qc_gdt, hcl, f1, if_neg (by decide), if_neg (by decide), if_neg (by decide), if_neg (by decide), if_neg (by decide), if_neg (by decide), if_pos rfl, show (1700 : Int32) + nI da.1 = nI (1700 + da.1) from nI_add 1700 _, t1, qc_bds, u1, qc_bds, qc_bds]
    · refine un1 f2 (by decide) (by omega) (fun I2 I3 t1 u1 => ?_)
      have u1 : fX12_taskOfKind w I2 L D R (nI a) 4 = some ((), I3, L, D, R) := u1
      have q1 : (1704 : Int32) + (10 : Int32) * nI v = nI (1704 + 10 * v) := by rw [show (10 : Int32) = nI 10 from rfl, qi_mul, show (1704 : Int32) = nI 1704 from rfl, nI_add]
      rw [z298 f1, if_pos (by decide)]
      unfold fX12_unfold_b319 fX12_unfoldOne
      rw [hg, qc_gdt, hcl, f1, if_neg (by decide), if_neg (by decide), if_neg (by decide), if_neg (by decide), if_neg (by decide), if_neg (by decide), if_neg (by decide), if_pos rfl, qc_gdt, h2, q1, t1, qc_bds, u1, qc_bds, qc_bds]
    · have hk := b1
      have hd4 : d.1 ≤ 4 := b3
      refine un1 f2 hd4 (by omega) (fun I2 I3 t1 u1 => ?_)
      rw [z298 f1, if_pos (by decide), hk]
      unfold fX12_unfold_b319 fX12_unfoldOne
      rw [hg, qc_gdt, hcl, f1, if_neg (by decide), if_neg (by decide), if_neg (by decide), if_neg (by decide), if_neg (by decide), if_neg (by decide), if_neg (by decide), if_neg (by decide), if_pos rfl, show (1740 : Int32) + nI d.1 = nI (1740 + d.1) from nI_add 1740 _, t1, qc_bds, u1, qc_bds, qc_bds]
    · -- a cast
      have hs := hsz f2
      obtain ⟨I2, t1, t2, t3⟩ := l_task (w := w) (L := L) (D := D) (R := R) hp (s := 5) (by decide) hTl (nI da.1) (nI v)
      obtain ⟨I3, u1, u2, u3⟩ := l_task (w := w) (L := L) (D := D) (R := R) t2 (s := 0) (by decide) (by rw [List.length_cons]; omega) (nI a) 0
      have t1 : fX12_task w I1 L D R 5 (nI da.1) (nI v) = some ((), I2, L, D, R) := t1
      have u1 : fX12_task w I2 L D R 0 (nI a) 0 = some ((), I3, L, D, R) := u1
      have e1 : fX12_unfold w I1 L D R (nI x) = some ((), I3, L, D, R) := by
        rw [z298 f1, if_pos (by decide)]
        unfold fX12_unfold_b319 fX12_unfoldOne fX12_unfoldOne_b186
        rw [hg, qc_gdt, hcl, f1, if_neg (by decide), if_neg (by decide), if_neg (by decide), if_neg (by decide), if_neg (by decide), if_neg (by decide), if_neg (by decide), if_neg (by decide), if_neg (by decide), qi_inbN g4 (by decide), qc_gdt, qc_gdt, nI_clamp (show a < 2 ^ 31 by omega), g1 hp.1, h2, t1, qc_bds, u1, qc_bds, qc_bds]
      refine go (T2 := T) e1 (u3.trans t3) ?_ (c' := 8 * da.2.2.1 + 1) (by omega)
      have hck : qs_ck v ≤ 4 := by unfold qs_ck; split <;> omega
      have hnj : qs_nj (if v < 4 then [(1650 + v, 0)] else []) := by
        split
        · exact qs_nj_1 (by omega)
        · exact qs_nj_nil
      rw [f2, sh_un g2 hck hnj]
      have v1 := ih a h4 da h5 0 _ l I3 N u2 (by simp only [List.length_cons]; omega) (by omega)
      refine lV_b (k2 := 0) (c2 := 1) v1 (by simp only [List.length_append]; omega) (by omega) (by omega) (by omega) (fun _ N1 I5 r1 j1 n1 => ?_)
      exact lt_5 hS r1 hTl (by omega) g2 fv
end
