/-! the reference lays code: every node's -/
theorem bd_i {β : Type} (out : qcO Unit) (g : Unit → qTI → qTL → qTD → qTR → qcO β) : qc_bd (qc_bd out fun _ I L D R => some ((), I, L, D, R)) g = qc_bd out g := by
  cases out with
  | none => rfl
  | some u => rfl
section
variable {w : qcW} {I I0 : qTI} {L : qTL} {D : qTD} {R : qTR} {q p N c k : Nat} {T : qTs} {l : List (Nat × Nat)} {ds : List qDen} {out : qcO Unit}
theorem lV_N (h : lV w L D R q p I0 k I T l N c out) : lV w L D R q p I0 k I T l (N + 1) (c + 1) out := by
  refine ⟨fun z => ?_, h.2⟩
  obtain ⟨N', I', e1, e2, e3, e4⟩ := h.1 z
  exact ⟨N', I', e1, e2, e3, by omega⟩
theorem sh_one {o a : Nat} (h : o < 1800 ∨ 1802 < o) (n : Nat) : qs_sh n [(o, a)] = [(o, a)] := qs_sh_nj (qs_nj_1 h) n
theorem mq_ko {k : Nat} (hk : k ≤ 4) : fX12_kindOp w I L D R (nI k) = some (nI (qs_ko k), I, L, D, R) := by
  unfold fX12_kindOp qs_ko
  by_cases z : k = 0
  · subst z; rfl
  · rw [if_neg (fun u => z ((kz hk).mp u)), Nat.max_eq_left (by omega)]
/-- two nodes made of kinds, then some acts -/
theorem l_two (hS : lS q p I0) {x a e kx ky k : Nat} {da de : qDen} {t : List (Nat × Nat)} {Tt : qTs} (ih : ∀ y, y < x → lP w L D R q p I0 ds y) (ha : a < x) (he : e < x) (hda : ds[a]? = some da) (hde : ds[e]? = some de) (h1 : da.1 ≤ 4) (h2 : de.1 ≤ 4) (hkx : kx ≤ 4) (hky : ky ≤ 4) (ht : qs_nj t) (hs1 : 1 ≤ da.2.2.1) (hs2 : 1 ≤ de.2.2.1)
    (h : lR q p I0 ((0, nI a, 0) :: (1, nI da.1, nI kx) :: (0, nI e, 0) :: (1, nI de.1, nI ky) :: (Tt ++ T)) l I) (hT : T.length + 3 * (da.2.2.1 + de.2.2.1 + 1) ≤ 1900) (hTt : Tt.length ≤ 2) (hN : 8 * (da.2.2.1 + de.2.2.1 + 1) + 1 ≤ N)
    (hfin : ∀ N' I' l', lR q p I0 (Tt ++ T) l' I' → 4 ≤ N' → lV w L D R q p I0 0 I' T (l' ++ t) N' 2 (fX12_layAll_l12 w N' (I', L, D, R))) : lV w L D R q p I0 (2 * x + 2) I T (l ++ qs_sh l.length (d_bi k kx ky t da de).2.2.2) N (8 * (da.2.2.1 + de.2.2.1 + 1) - 1) (fX12_layAll_l12 w N (I, L, D, R)) := by
  rw [sh_bi h1 h2 hkx hky ht]
  have hlT : (Tt ++ T).length = Tt.length + T.length := List.length_append
  have v1 := l_ak (N := N) hS (ih a ha) hda h1 hkx h (by simp only [List.length_cons, hlT]; omega) (by omega)
  refine lV_b (k2 := 2 * x + 2) (c2 := 8 * de.2.2.1 + 3) v1 (by simp only [List.length_append]; omega) (by omega) (Nat.le_refl _) (by omega) (fun _ N1 I1 r1 j1 n1 => ?_)
  have v2 := l_ak (N := N1) hS (ih e he) hde h2 hky r1 (by rw [hlT]; omega) (by omega)
  refine lV_b (k2 := 0) (c2 := 2) v2 (by simp only [List.length_append]; omega) (by omega) (by omega) (by omega) (fun _ N2 I2 r2 j2 n2 => ?_)
  exact hfin N2 I2 _ r2 (by omega)
/-- a node made of a kind, then an act -/
theorem l_one (hS : lS q p I0) {x a kc k : Nat} {da : qDen} {o v : Nat} (ih : ∀ y, y < x → lP w L D R q p I0 ds y) (ha : a < x) (hda : ds[a]? = some da) (h1 : da.1 ≤ 4) (hkc : kc ≤ 4) (ht : qs_nj [(o, v)]) (h : lR q p I0 ((0, nI a, 0) :: (1, nI da.1, nI kc) :: (2, nI o, nI v) :: T) l I) (hT : T.length + 3 * (da.2.2.1 + 1) ≤ 1900) (hN : 8 * (da.2.2.1 + 1) + 1 ≤ N) : lV w L D R q p I0 (2 * x + 2) I T (l ++ qs_sh l.length (d_un k kc [(o, v)] da).2.2.2) N (8 * (da.2.2.1 + 1) - 1) (fX12_layAll_l12 w N (I, L, D, R)) := by
  rw [sh_un h1 hkc ht]
  have v1 := l_ak (N := N) hS (ih a ha) hda h1 hkc h (by simp only [List.length_cons]; omega) (by omega)
  refine lV_b (k2 := 0) (c2 := 1) v1 (by simp only [List.length_append]; omega) (by omega) (by omega) (by omega) (fun _ N1 I1 r1 j1 n1 => ?_)
  exact lt_2 hS r1 (by omega) (by omega)
theorem l_one0 (hS : lS q p I0) {x a k : Nat} {da : qDen} {o v : Nat} (ih : ∀ y, y < x → lP w L D R q p I0 ds y) (ha : a < x) (hda : ds[a]? = some da) (h1 : da.1 ≤ 4) (ht : qs_nj [(o, v)]) (h : lR q p I0 ((0, nI a, 0) :: (2, nI o, nI v) :: T) l I) (hT : T.length + 3 * (da.2.2.1 + 1) ≤ 1900) (hN : 8 * (da.2.2.1 + 1) + 1 ≤ N) : lV w L D R q p I0 (2 * x + 2) I T (l ++ qs_sh l.length (d_un k da.1 [(o, v)] da).2.2.2) N (8 * (da.2.2.1 + 1) - 1) (fX12_layAll_l12 w N (I, L, D, R)) := by
  rw [sh_un h1 h1 ht, show qs_cv da.1 da.1 = [] from if_pos rfl, List.append_nil]
  have v1 := ih a ha da hda 0 _ l I N h (by simp only [List.length_cons]; omega) (by omega)
  refine lV_b (k2 := 0) (c2 := 1) v1 (by simp only [List.length_append]; omega) (by omega) (by omega) (by omega) (fun _ N1 I1 r1 j1 n1 => ?_)
  exact lt_2 hS r1 (by omega) (by omega)
end
