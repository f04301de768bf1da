/-! two sums joined, by the class -/
theorem qc_mf_lv : ∀ m, m < 62 → qc_mfV 0 m = nI (qs_sv m) - 1 := by decide
theorem qc_mf_op : ∀ m, m < 62 → (m = 20 ∨ m = 21 → qc_mfV 1 m = nI (1800 + (if m = 20 then 1 else 0))) ∧ (qs_sv m = 4 → qc_mfV 1 m = nI (1500 + (m - 36))) ∧ (5 ≤ qs_sv m → qc_mfV 1 m = nI (qs_op m)) := by decide
theorem mg_id {n : Nat} {l : List (Nat × Nat)} (h : jl l n) : l.map (qs_mg n) = l := by
  rw [List.map_congr_left (g := id) (fun q hq => ?_), List.map_id]
  unfold qs_mg
  rw [if_neg (fun z => by have := (h q hq).2.2 z.1; omega)]
  rfl
theorem mg_nj {n : Nat} {l : List (Nat × Nat)} (h : qs_nj l) : l.map (qs_mg n) = l := by
  rw [List.map_congr_left (g := id) (fun q hq => ?_), List.map_id]
  unfold qs_mg
  rw [if_neg (fun z => by have := h q hq; rw [z.1] at this; cases this)]
  rfl
/-- jumps go forward -/
def jf (l : List (Nat × Nat)) : Prop := ∀ q ∈ l, q.1 < 2000 ∧ (¬ qs_ij q.1 = true → q.2 < 2147483648) ∧ (qs_ij q.1 = true → 0 < q.2 ∧ q.2 ≤ l.length)
theorem mg_sh {n : Nat} {l : List (Nat × Nat)} (h : jf l) : (qs_sh n l).map (qs_mg n) = qs_sh (n + 1) l := by
  unfold qs_sh
  rw [List.map_map]
  refine List.map_congr_left (fun q hq => ?_)
  show qs_mg n (qs_s1 n q) = qs_s1 (n + 1) q
  by_cases z : qs_ij q.1 = true
  · have := ((h q hq).2.2 z).1
    rw [qs_s1_p z, qs_s1_p z]
    unfold qs_mg
    rw [if_pos ⟨z, by show n < q.2 + n; omega⟩]
    rfl
  · rw [qs_s1_n z, qs_s1_n z]
    unfold qs_mg
    rw [if_neg (fun y => z y.1)]
theorem jf_D {nr : Nat} {d : qDen} (h : qs_D nr d) : jf d.2.2.2 := by
  obtain ⟨H, -, -, -, h4⟩ := h.2.2.2.2.2 []
  intro q hq
  obtain ⟨i, hi⟩ := List.mem_iff_getElem?.mp hq
  rcases h4 i q hi with ⟨-, z2, z3⟩ | ⟨z1, z2, -⟩ | ⟨z1, z2, z3, -⟩ | ⟨z1, z2, z3, -⟩
  · exact ⟨by omega, fun _ => z3, fun y => by have := qs_ij_of y; omega⟩
  · exact ⟨by omega, fun _ => by omega, fun y => by have := qs_ij_of y; omega⟩
  · exact ⟨by omega, fun y => absurd (show qs_ij q.1 = true by rcases z1 with z | z <;> (rw [z]; rfl)) y, fun _ => ⟨by omega, z3⟩⟩
  · exact ⟨by omega, fun y => absurd (show qs_ij q.1 = true by rw [z1]; rfl) y, fun _ => ⟨by omega, z3⟩⟩
theorem jl_sh {n : Nat} {l : List (Nat × Nat)} (h : jf l) (hn : n + l.length < 2147483648) : jl (qs_sh n l) (n + l.length) := by
  intro q hq
  unfold qs_sh at hq
  obtain ⟨q', z1, z2⟩ := List.mem_map.mp hq
  obtain ⟨a1, a2, a3⟩ := h q' z1
  rw [← z2]
  by_cases z : qs_ij q'.1 = true
  · have := a3 z
    rw [qs_s1_p z]
    exact ⟨a1, by show q'.2 + n < _; omega, fun _ => by show q'.2 + n ≤ _; omega⟩
  · rw [qs_s1_n z]
    exact ⟨a1, a2 z, fun y => absurd y z⟩
section
variable {w : qcW} {I : qTI} {L : qTL} {D : qTD} {R : qTR} {c h pk : Nat} {l : List (Nat × Nat)}
theorem cx_wh {k : Nat} (hk : k ≤ 4) : fX2_isWhole w I L D R (nI k) = some (qs_wh k, I, L, D, R) := by
  unfold fX2_isWhole
  have e1 : nI k = 1 ↔ k = 1 := qi_nI_inj' (j := 1) (by omega) (by decide)
  have e2 : nI k = 2 ↔ k = 2 := qi_nI_inj' (j := 2) (by omega) (by decide)
  by_cases z1 : k = 1
  · rw [if_pos (e1.mpr z1), z1]; rfl
  rw [if_neg (fun y => z1 (e1.mp y))]
  by_cases z2 : k = 2
  · rw [if_pos (e2.mpr z2), z2]; rfl
  rw [if_neg (fun y => z2 (e2.mp y)), show qs_wh k = false from Bool.eq_false_iff.mpr (fun y => by have := qs_wh_of y; omega)]
theorem cx_fits {m k j : Nat} (hs : 1 ≤ qs_sv m) (hk : k ≤ 4) (hj : j ≤ 4) : fX2_fits w I L D R m (nI k) (nI j) = some (qs_fits m k j, I, L, D, R) := by
  have hm : m = 20 ∨ m = 21 ∨ m = 36 ∨ m = 37 ∨ m = 38 ∨ m = 39 ∨ m = 40 ∨ m = 41 ∨ m = 42 ∨ m = 43 ∨ m = 44 ∨ m = 45 ∨ m = 46 ∨ m = 47 ∨ m = 48 ∨ m = 49 ∨ m = 50 ∨ m = 51 ∨ m = 52 := by have := qs_sv_c m; omega
  have hk : k = 0 ∨ k = 1 ∨ k = 2 ∨ k = 3 ∨ k = 4 := by omega
  have hj : j = 0 ∨ j = 1 ∨ j = 2 ∨ j = 3 ∨ j = 4 := by omega
  rcases hk with rfl | rfl | rfl | rfl | rfl <;> rcases hj with rfl | rfl | rfl | rfl | rfl <;> rcases hm with rfl | rfl | rfl | rfl | rfl | rfl | rfl | rfl | rfl | rfl | rfl | rfl | rfl | rfl | rfl | rfl | rfl | rfl | rfl <;> rfl
end
