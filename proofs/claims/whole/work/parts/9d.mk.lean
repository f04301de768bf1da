/-! the makers keep what is known of code -/
section
variable {nr : Nat} {x y c : qDen}
theorem qs_D_mn {nr' : Nat} (h : qs_D nr x) (hn : nr ≤ nr') (hs : nr' < 2147483648) : qs_D nr' x :=
  ⟨h.1, h.2.1, h.2.2.1, h.2.2.2.1, h.2.2.2.2.1, fun s => qs_ty_mn (h.2.2.2.2.2 s) hn hs⟩
theorem qs_cv_len (f t : Nat) : (qs_cv f t).length ≤ 1 := by
  unfold qs_cv
  split
  · exact Nat.zero_le _
  · exact Nat.le_refl _
/-- what stands behind a sum: no jumps, from these kinds to that -/
def qs_T (nr : Nat) (t : List (Nat × Nat)) (f g : List Nat) : Prop := qs_nj t ∧ ∀ (s : List Nat) (hm : Nat), s.length + f.length ≤ hm → s.length + g.length ≤ hm → qs_ty nr t (f ++ s) (g ++ s) hm
theorem D_un {k kc : Nat} {t : List (Nat × Nat)} (hx : qs_D nr x) (hk : k ≤ 4) (hc : 1 ≤ x.1 ∧ 1 ≤ kc ∧ kc ≤ 4 ∨ x.1 = kc) (ht : qs_T nr t [kc] [k]) (hl : t.length ≤ 3) : qs_D nr (d_un k kc t x) := by
  obtain ⟨h1, h2, ⟨h3, h3'⟩, h4, h5, h6⟩ := hx
  have hcv := qs_cv_len x.1 kc
  refine ⟨hk, Nat.succ_le_succ (Nat.zero_le _), ⟨h3, by show x.2.1 ≤ x.2.2.1 + 1; omega⟩, ?_, ?_, fun s => ?_⟩
  · show 0 < (x.2.2.2 ++ qs_cv x.1 kc ++ t).length
    rw [List.length_append, List.length_append]; omega
  · show (x.2.2.2 ++ qs_cv x.1 kc ++ t).length ≤ 6 * (x.2.2.1 + 1)
    rw [List.length_append, List.length_append]; omega
  · have a := h6 s
    have b := qs_ty_cv (nr := nr) (hm := s.length + x.2.1) (f := x.1) (t := kc) (s := s) (by omega) (by omega)
    have ab := qs_ty_an a b (by
      rcases hc with z | z
      · exact qs_nj_cv h1 z.2.2
      · exact qs_nj_cv h1 (by omega))
    exact qs_ty_an ab (ht.2 s _ (by show s.length + 1 ≤ s.length + x.2.1; omega) (by show s.length + 1 ≤ s.length + x.2.1; omega)) ht.1
theorem D_bi {k kx ky : Nat} {t : List (Nat × Nat)} (hx : qs_D nr x) (hy : qs_D nr y) (hk : k ≤ 4) (hcx : 1 ≤ x.1 ∧ 1 ≤ kx ∧ kx ≤ 4 ∨ x.1 = kx) (hcy : 1 ≤ y.1 ∧ 1 ≤ ky ∧ ky ≤ 4 ∨ y.1 = ky) (ht : qs_T nr t [ky, kx] [k]) (hl : t.length ≤ 3) : qs_D nr (d_bi k kx ky t x y) := by
  obtain ⟨h1, h2, ⟨h3, h3'⟩, h4, h5, h6⟩ := hx
  obtain ⟨g1, g2, ⟨g3, g3'⟩, g4, g5, g6⟩ := hy
  have hcv := qs_cv_len x.1 kx
  have gcv := qs_cv_len y.1 ky
  have hlen : ((x.2.2.2 ++ qs_cv x.1 kx) ++ qs_sh (x.2.2.2 ++ qs_cv x.1 kx).length (y.2.2.2 ++ qs_cv y.1 ky) ++ t).length = x.2.2.2.length + (qs_cv x.1 kx).length + (y.2.2.2.length + (qs_cv y.1 ky).length) + t.length := by
    rw [List.length_append, List.length_append, qs_sh_len, List.length_append, List.length_append]
  refine ⟨hk, Nat.succ_le_succ (Nat.zero_le _), ⟨Nat.le_trans h3 (Nat.le_max_left _ _), by show max x.2.1 (1 + y.2.1) ≤ x.2.2.1 + y.2.2.1 + 1; omega⟩, ?_, ?_, fun s => ?_⟩
  · show 0 < ((x.2.2.2 ++ qs_cv x.1 kx) ++ qs_sh (x.2.2.2 ++ qs_cv x.1 kx).length (y.2.2.2 ++ qs_cv y.1 ky) ++ t).length
    rw [hlen]; omega
  · show ((x.2.2.2 ++ qs_cv x.1 kx) ++ qs_sh (x.2.2.2 ++ qs_cv x.1 kx).length (y.2.2.2 ++ qs_cv y.1 ky) ++ t).length ≤ 6 * (x.2.2.1 + y.2.2.1 + 1)
    rw [hlen]; omega
  · have e1 : s.length + x.2.1 ≤ s.length + max x.2.1 (1 + y.2.1) := by omega
    have e2 : (kx :: s).length + y.2.1 ≤ s.length + max x.2.1 (1 + y.2.1) := by show s.length + 1 + y.2.1 ≤ _; omega
    have a := qs_ty_mono (h6 s) e1
    have b := qs_ty_cv (nr := nr) (hm := s.length + max x.2.1 (1 + y.2.1)) (f := x.1) (t := kx) (s := s) (by omega) (by omega)
    have ab := qs_ty_an a b (by
      rcases hcx with z | z
      · exact qs_nj_cv h1 z.2.2
      · exact qs_nj_cv h1 (by omega))
    have c := qs_ty_mono (g6 (kx :: s)) e2
    have d := qs_ty_cv (nr := nr) (hm := s.length + max x.2.1 (1 + y.2.1)) (f := y.1) (t := ky) (s := kx :: s) (by omega) (by show s.length + 1 + 1 ≤ _; omega)
    have cd := qs_ty_an c d (by
      rcases hcy with z | z
      · exact qs_nj_cv g1 z.2.2
      · exact qs_nj_cv g1 (by omega))
    exact qs_ty_an (qs_ty_app ab cd) (ht.2 s _ (by show s.length + 2 ≤ s.length + max x.2.1 (1 + y.2.1); omega) (by show s.length + 1 ≤ s.length + max x.2.1 (1 + y.2.1); omega)) ht.1
/-- a jump if no (or yes) over m1, which ends with a jump over m2 -/
theorem qs_ty_if {v hm : Nat} {s t : List Nat} {l m1 m2 : List (Nat × Nat)} (hv : v ≤ 1) (h : qs_ty nr l s (0 :: s) hm) (g1 : qs_ty nr m1 s t hm) (g2 : qs_ty nr m2 s t hm) : qs_ty nr (l ++ [(1800 + v, l.length + 1 + m1.length + 1)] ++ qs_sh (l.length + 1) m1 ++ [(1802, l.length + 1 + m1.length + 1 + m2.length)] ++ qs_sh (l.length + 1 + m1.length + 1) m2) s t hm := by
  obtain ⟨H, h1, h2, h3, h4⟩ := h
  obtain ⟨F, f1, f2, f3, f4⟩ := g1
  obtain ⟨G, k1, k2, k3, k4⟩ := g2
  have hlen : (l ++ [(1800 + v, l.length + 1 + m1.length + 1)] ++ qs_sh (l.length + 1) m1 ++ [(1802, l.length + 1 + m1.length + 1 + m2.length)] ++ qs_sh (l.length + 1 + m1.length + 1) m2).length = l.length + 1 + m1.length + 1 + m2.length := by
    simp only [List.length_append, qs_sh_len, List.length_cons, List.length_nil, Nat.zero_add]
  obtain ⟨X, hX⟩ : ∃ X : Nat → List Nat, X = fun i => if i ≤ l.length then H i else if i ≤ l.length + 1 + m1.length then F (i - (l.length + 1)) else G (i - (l.length + 1 + m1.length + 1)) := ⟨_, rfl⟩
  have x1 : ∀ j, j ≤ l.length → X (0 + j) = H j := fun j hj => by
    rw [hX]; dsimp only
    rw [Nat.zero_add, if_pos hj]
  have x2 : ∀ j, j ≤ m1.length → X (l.length + 1 + j) = F j := fun j hj => by
    rw [hX]; dsimp only
    rw [if_neg (by omega), if_pos (by omega), Nat.add_sub_cancel_left]
  have x3 : ∀ j, j ≤ m2.length → X (l.length + 1 + m1.length + 1 + j) = G j := fun j hj => by
    rw [hX]; dsimp only
    rw [if_neg (by omega), if_neg (by omega), Nat.add_sub_cancel_left]
  have y1 : X l.length = 0 :: s := by have := x1 l.length (Nat.le_refl _); rw [Nat.zero_add] at this; rw [this, h2]
  have y2 : X (l.length + 1) = s := (x2 0 (Nat.zero_le _)).trans f1
  have y3 : X (l.length + 1 + m1.length) = t := (x2 _ (Nat.le_refl _)).trans f2
  have y4 : X (l.length + 1 + m1.length + 1) = s := (x3 0 (Nat.zero_le _)).trans k1
  have y5 : X (l.length + 1 + m1.length + 1 + m2.length) = t := (x3 _ (Nat.le_refl _)).trans k2
  refine ⟨X, ?_, ?_, fun i hi => ?_, fun i q hq => ?_⟩
  · have := x1 0 (Nat.zero_le _); rw [Nat.zero_add] at this; rw [this, h1]
  · rw [hlen, y5]
  · rw [hlen] at hi
    by_cases z1 : i ≤ l.length
    · have := x1 i z1; rw [Nat.zero_add] at this; rw [this]; exact h3 i z1
    · by_cases z2 : i ≤ l.length + 1 + m1.length
      · have := x2 (i - (l.length + 1)) (by omega)
        rw [show l.length + 1 + (i - (l.length + 1)) = i by omega] at this
        rw [this]; exact f3 _ (by omega)
      · have := x3 (i - (l.length + 1 + m1.length + 1)) (by omega)
        rw [show l.length + 1 + m1.length + 1 + (i - (l.length + 1 + m1.length + 1)) = i by omega] at this
        rw [this]; exact k3 _ (by omega)
  · have hi2 := qs_ltl hq
    rw [hlen] at hi2 ⊢
    have n1 : (l ++ [(1800 + v, l.length + 1 + m1.length + 1)]).length = l.length + 1 := by rw [List.length_append]; rfl
    have n2 : (l ++ [(1800 + v, l.length + 1 + m1.length + 1)] ++ qs_sh (l.length + 1) m1).length = l.length + 1 + m1.length := by rw [List.length_append, n1, qs_sh_len]
    have n3 : (l ++ [(1800 + v, l.length + 1 + m1.length + 1)] ++ qs_sh (l.length + 1) m1 ++ [(1802, l.length + 1 + m1.length + 1 + m2.length)]).length = l.length + 1 + m1.length + 1 := by rw [List.length_append, n2]; rfl
    by_cases z4 : i < l.length + 1 + m1.length + 1
    · have hq := qs_apL hq (by rw [n3]; exact z4)
      by_cases z3 : i < l.length + 1 + m1.length
      · have hq := qs_apL hq (by rw [n2]; exact z3)
        by_cases z2 : i < l.length + 1
        · have hq := qs_apL hq (by rw [n1]; exact z2)
          by_cases z1 : i < l.length
          · have := qs_at_mv (k := 0) (n' := l.length + 1 + m1.length + 1 + m2.length) (G := X) (h4 i q (qs_apL hq z1)) z1 (by omega) x1
            rw [Nat.zero_add, qs_s1_0] at this
            exact this
          · have e : i = l.length := by omega
            subst e
            have hq := qs_apR hq (Nat.le_refl _)
            rw [Nat.sub_self] at hq
            cases hq
            refine Or.inr (Or.inr (Or.inl ⟨by show 1800 + v = 1800 ∨ 1800 + v = 1801; omega, by show l.length < l.length + 1 + m1.length + 1; omega, by show l.length + 1 + m1.length + 1 ≤ _; omega, by rw [y1, y2], ?_⟩))
            show X (l.length + 1 + m1.length + 1) = X (l.length + 1)
            rw [y4, y2]
        · have hq := qs_apR hq (by rw [n1]; omega)
          rw [n1] at hq
          obtain ⟨q', e1, e2⟩ := qs_sh_get _ _ hq
          have := qs_at_mv (k := l.length + 1) (n' := l.length + 1 + m1.length + 1 + m2.length) (G := X) (f4 (i - (l.length + 1)) q' e1) (by omega) (by omega) x2
          rw [show l.length + 1 + (i - (l.length + 1)) = i by omega] at this
          rw [e2]
          exact this
      · have e : i = l.length + 1 + m1.length := by omega
        subst e
        have hq := qs_apR hq (by rw [n2]; exact Nat.le_refl _)
        rw [n2, Nat.sub_self] at hq
        cases hq
        refine Or.inr (Or.inr (Or.inr ⟨rfl, by show l.length + 1 + m1.length < l.length + 1 + m1.length + 1 + m2.length; omega, Nat.le_refl _, ?_⟩))
        show X (l.length + 1 + m1.length + 1 + m2.length) = X (l.length + 1 + m1.length)
        rw [y5, y3]
    · have hq := qs_apR hq (by rw [n3]; omega)
      rw [n3] at hq
      obtain ⟨q', e1, e2⟩ := qs_sh_get _ _ hq
      have := qs_at_mv (k := l.length + 1 + m1.length + 1) (n' := l.length + 1 + m1.length + 1 + m2.length) (G := X) (k4 (i - (l.length + 1 + m1.length + 1)) q' e1) (by omega) (by omega) x3
      rw [show l.length + 1 + m1.length + 1 + (i - (l.length + 1 + m1.length + 1)) = i by omega] at this
      rw [e2]
      exact this
theorem D_ch {k : Nat} (hc : qs_D nr c) (hx : qs_D nr x) (hy : qs_D nr y) (c0 : c.1 = 0) (hk : k = max x.1 y.1) (hf : x.1 = 0 ↔ y.1 = 0) : qs_D nr (d_ch k c x y) := by
  obtain ⟨h1, h2, ⟨h3, h3'⟩, h4, h5, h6⟩ := hx
  obtain ⟨g1, g2, ⟨g3, g3'⟩, g4, g5, g6⟩ := hy
  obtain ⟨c1, c2, ⟨c3, c3'⟩, c4, c5, c6⟩ := hc
  have hcv := qs_cv_len x.1 k
  have gcv := qs_cv_len y.1 k
  have kx : 1 ≤ x.1 ∧ 1 ≤ k ∧ k ≤ 4 ∨ x.1 = k := by omega
  have ky : 1 ≤ y.1 ∧ 1 ≤ k ∧ k ≤ 4 ∨ y.1 = k := by omega
  have hlen : (d_ch k c x y).2.2.2.length = c.2.2.2.length + 1 + (x.2.2.2.length + (qs_cv x.1 k).length) + 1 + (y.2.2.2.length + (qs_cv y.1 k).length) := by
    simp only [d_ch, List.length_append, qs_sh_len, List.length_cons, List.length_nil, Nat.zero_add]
  refine ⟨by show k ≤ 4; omega, Nat.succ_le_succ (Nat.zero_le _), ⟨Nat.le_trans c3 (Nat.le_max_left _ _), by show max c.2.1 (max x.2.1 y.2.1) ≤ c.2.2.1 + x.2.2.1 + y.2.2.1 + 1; omega⟩, by rw [hlen]; omega, ?_, fun s => ?_⟩
  · rw [hlen]
    show _ ≤ 6 * (c.2.2.1 + x.2.2.1 + y.2.2.1 + 1)
    omega
  · have e : s.length + (d_ch k c x y).2.1 = s.length + max c.2.1 (max x.2.1 y.2.1) := rfl
    rw [e]
    have a := qs_ty_mono (hm' := s.length + max c.2.1 (max x.2.1 y.2.1)) (c6 s) (by omega)
    rw [c0] at a
    have bx := qs_ty_an (qs_ty_mono (hm' := s.length + max c.2.1 (max x.2.1 y.2.1)) (h6 s) (by omega)) (qs_ty_cv (nr := nr) (f := x.1) (t := k) (s := s) (by omega) (by omega)) (qs_nj_cv h1 (by omega))
    have bY := qs_ty_an (qs_ty_mono (hm' := s.length + max c.2.1 (max x.2.1 y.2.1)) (g6 s) (by omega)) (qs_ty_cv (nr := nr) (f := y.1) (t := k) (s := s) (by omega) (by omega)) (qs_nj_cv g1 (by omega))
    exact qs_ty_if (v := 0) (by decide) a bx bY
theorem D_lg {v : Nat} (hv : v ≤ 1) (hx : qs_D nr x) (hy : qs_D nr y) (x0 : x.1 = 0) (y0 : y.1 = 0) : qs_D nr (d_lg v x y) := by
  obtain ⟨h1, h2, ⟨h3, h3'⟩, h4, h5, h6⟩ := hx
  obtain ⟨g1, g2, ⟨g3, g3'⟩, g4, g5, g6⟩ := hy
  have hlen : (d_lg v x y).2.2.2.length = x.2.2.2.length + 1 + y.2.2.2.length + 2 := by
    simp only [d_lg, List.length_append, qs_sh_len, List.length_cons, List.length_nil, Nat.zero_add]
  refine ⟨Nat.zero_le _, Nat.succ_le_succ (Nat.zero_le _), ⟨Nat.le_trans h3 (Nat.le_max_left _ _), by show max x.2.1 y.2.1 ≤ x.2.2.1 + y.2.2.1 + 1; omega⟩, by rw [hlen]; omega, ?_, fun s => ?_⟩
  · rw [hlen]
    show _ ≤ 6 * (x.2.2.1 + y.2.2.1 + 1)
    omega
  · show qs_ty nr (x.2.2.2 ++ [(1800 + v, x.2.2.2.length + 1 + y.2.2.2.length + 1)] ++ qs_sh (x.2.2.2.length + 1) y.2.2.2 ++ [(1802, x.2.2.2.length + 1 + y.2.2.2.length + 2), (1, v)]) s (0 :: s) (s.length + max x.2.1 y.2.1)
    have a := qs_ty_mono (hm' := s.length + max x.2.1 y.2.1) (h6 s) (by omega)
    rw [x0] at a
    have c := qs_ty_mono (hm' := s.length + max x.2.1 y.2.1) (g6 s) (by omega)
    rw [y0] at c
    have d : qs_ty nr [(1, v)] s (0 :: s) (s.length + max x.2.1 y.2.1) := qs_ty_1 (Or.inl ⟨rfl, Or.inr ⟨rfl, by rcases (show v = 0 ∨ v = 1 by omega) with z | z <;> (rw [z]; decide)⟩⟩) (by decide) (by omega) (by omega) (by show s.length + 1 ≤ _; omega)
    have := qs_ty_if hv a c d
    rw [qs_sh_nj (qs_nj_1 (by omega)), List.append_assoc _ [_] [_]] at this
    exact this
end
