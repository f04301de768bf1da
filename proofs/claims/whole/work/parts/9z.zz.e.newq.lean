/-! code that was read can be run -/
section
variable {nr hm : Nat} {l : List (Nat × Nat)} {res : List Nat} {op ar : Nat → Int32}
theorem wf_ty (h : qs_ty nr l [] res hm) (hl : l.length ≤ 200) (hh : hm ≤ 24) (ho : ∀ i e, l[i]? = some e → op i = nI e.1 ∧ ar i = nI e.2) : qw_wf nr l.length op ar res := by
  obtain ⟨H, h1, h2, h3, h4⟩ := h
  refine ⟨hl, H, h1, h2, fun i hi => Nat.le_trans (h3 i hi) hh, fun i hi => ?_⟩
  obtain ⟨e, he⟩ : ∃ e, l[i]? = some e := ⟨l[i], List.getElem?_eq_getElem hi⟩
  obtain ⟨o1, o2⟩ := ho i e he
  rcases h4 i e he with ⟨a1, a2, a3⟩ | ⟨a1, a2, r, a3, a4⟩ | ⟨a1, a2, a3, a4, a5⟩ | ⟨a1, a2, a3, a4⟩
  · refine Or.inl ?_
    rw [o1, o2]
    exact a1
  · refine Or.inl ?_
    rw [o1, a1, a3, a4]
    unfold qw_st
    exact Or.inr (Or.inr (Or.inr (Or.inr (Or.inr (Or.inr (Or.inr (Or.inr (Or.inr (Or.inr (Or.inr (Or.inr (Or.inr (Or.inr (Or.inr (Or.inr (Or.inr (Or.inr (Or.inr (Or.inr ⟨r, rfl, rfl, rfl⟩)))))))))))))))))))
  · refine Or.inr (Or.inl ⟨?_, e.2, o2, a2, a3, a4, a5⟩)
    rw [o1]
    rcases a1 with z | z <;> rw [z]
    · exact Or.inl rfl
    · exact Or.inr rfl
  · refine Or.inr (Or.inr ⟨?_, e.2, o2, a2, a3, a4⟩)
    rw [o1, a1]
    rfl
theorem ty_op (h : qs_ty nr l [] res hm) {i : Nat} {e : Nat × Nat} (he : l[i]? = some e) : e.1 ≤ 1810 := by
  obtain ⟨H, h1, h2, h3, h4⟩ := h
  rcases h4 i e he with ⟨a1, a2, a3⟩ | ⟨a1, a2⟩ | ⟨a1, a2⟩ | ⟨a1, a2⟩ <;> omega
theorem ns_qw {n : Nat} (hn : q_ns l) (hn2 : n ≤ l.length) (h : ∀ (i : Nat) (e : Nat × Nat), l[i]? = some e → e.1 ≤ 1810) (ho : ∀ i e, l[i]? = some e → op i = nI e.1 ∧ ar i = nI e.2) : qw_ns n op := fun i hi k hk hc => by
  obtain ⟨e, he⟩ : ∃ e, l[i]? = some e := ⟨l[i]'(by omega), List.getElem?_eq_getElem (by omega)⟩
  have h1 := h i e he
  rw [(ho i e he).1] at hc
  have h2 := qi_nI_inj (by omega) (by omega) hc
  exact hn e (List.mem_of_getElem? he) (by omega)
end
theorem T_st {nr l c : Nat} (h1 : l < 8) (h2 : c < 10) : qs_T nr [(20 + l, c)] [qw_kd l, 1] [] := by
  refine ⟨qs_nj_1 (by omega), fun s hm h3 h4 => ?_⟩
  refine qs_ty_1 ?_ (by omega) (by omega) h3 h4
  unfold qw_st
  exact Or.inr (Or.inr (Or.inr (Or.inr (Or.inl ⟨l, s, h1, rfl, qi_inbN h2 (by decide), rfl, rfl⟩))))
/-! the queries of both, seen from a made one -/
section
variable {w : qcW} {I : qTI} {D : qTD} {R : qTR} {N n nr sort s0 s1 s2 : Nat} {x : qX} {ln : Nat → Nat} {rs : List UInt64}
theorem kP_o {q p : Nat} {l : List (Nat × Nat)} (h : kP q p l I) {b : Nat} (hb : b = 600 * q + 200 * p) : ∀ i e, l[i]? = some e → (fun i => I 315 (b + i)) i = nI e.1 ∧ (fun i => I 316 (b + i)) i = nI e.2 := fun i e he => by
  rw [hb]
  exact h.2.2 i e he
theorem q_c0_D {o : Option qDen} {k : Nat} (h : ∀ d, o = some d → qs_D nr d ∧ d.1 = k) (hs : o ≠ none) : qs_ty nr (q_c0 o) [] [k] (q_n0 o) := by
  cases o with
  | none => exact absurd rfl hs
  | some d =>
    obtain ⟨h1, h2⟩ := h d rfl
    have := h1.2.2.2.2.2 []
    rw [h2] at this
    show qs_ty nr d.2.2.2 [] [k] d.2.1
    simpa using this
theorem c0_ns {o : Option qDen} (h : ∀ d, o = some d → q_ns d.2.2.2) : q_ns (q_c0 o) := by
  cases o with
  | none => exact ns_nil
  | some d => exact h d rfl
theorem ty_cv {d : qDen} (hd : qs_D nr d) (h0 : d.1 ≠ 0) {t : Nat} (ht : 1 ≤ t ∧ t ≤ 4) : qs_ty nr (d.2.2.2 ++ qs_cv d.1 t) [] [t] d.2.1 := by
  have h1 := hd.2.2.2.2.2 []
  rw [List.length_nil, Nat.zero_add] at h1
  have h2 : qs_ty nr (qs_cv d.1 t) (d.1 :: []) (t :: []) d.2.1 := qs_ty_cv (Or.inl ⟨by omega, hd.1, ht.1, ht.2⟩) (by have := hd.2.2.1.1; simp; omega)
  exact qs_ty_an h1 h2 (qs_nj_cv hd.1 ht.2)
/-- set's code -/
theorem ty_set {d : qDen} (hd : qs_D nr d) {l c : Nat} (hl : l < 8) (hc : c < 10) (hk : d.1 = 0 ↔ l = 0) : qs_ty nr ([(3, 0)] ++ qs_sh 1 d.2.2.2 ++ qs_cv d.1 (qw_kd l) ++ q_cs l c) [] [] (d.2.1 + 1) ∧ q_cs l c = q_cs l c := by
  refine ⟨?_, rfl⟩
  have hn := hd.2.2.1.1
  have kd4 := qw_kd_le hl
  have h1 : qs_ty nr [(3, 0)] [] [1] (d.2.1 + 1) := T_obj.2 [] _ (by simp) (by simp)
  have h2 : qs_ty nr d.2.2.2 [1] (d.1 :: [1]) (d.2.1 + 1) := by
    have := hd.2.2.2.2.2 [1]
    rw [show [1].length + d.2.1 = d.2.1 + 1 by simp; omega] at this
    exact this
  have h3 := qs_ty_app h1 h2
  have h3 : qs_ty nr ([(3, 0)] ++ qs_sh 1 d.2.2.2) [] (d.1 :: [1]) (d.2.1 + 1) := h3
  have kdl : qw_kd l = 0 ↔ l = 0 := by
    have : ∀ l, l < 8 → (qw_kd l = 0 ↔ l = 0) := by decide
    exact this l hl
  have h4 : qs_ty nr (qs_cv d.1 (qw_kd l)) (d.1 :: [1]) (qw_kd l :: [1]) (d.2.1 + 1) := qs_ty_cv (by
    by_cases z : l = 0
    · right; rw [hk.mpr z, kdl.mpr z]
    · left
      have : d.1 ≠ 0 := fun u => z (hk.mp u)
      have : qw_kd l ≠ 0 := fun u => z (kdl.mp u)
      have := hd.1
      omega) (by simp; omega)
  have h5 := qs_ty_an h3 h4 (qs_nj_cv hd.1 kd4)
  have h6 : qs_ty nr [(20 + l, c)] [qw_kd l, 1] [] (d.2.1 + 1) := (T_st hl hc).2 [] _ (by simp; omega) (by simp)
  unfold q_cs
  by_cases z : 1 ≤ l ∧ l ≤ 3
  · rw [if_pos z]
    have e1 : qw_kd l = 1 := by
      have : ∀ l, l < 8 → 1 ≤ l ∧ l ≤ 3 → qw_kd l = 1 := by decide
      exact this l hl z
    have h7 : qs_ty nr [(1650 + l, 0)] [1, 1] [1, 1] (d.2.1 + 1) := (T_ca z.1 z.2).2 [1] _ (by simp; omega) (by simp; omega)
    rw [e1] at h5 h6 ⊢
    have h8 := qs_ty_an h5 h7 (qs_nj_1 (by omega))
    have h9 := qs_ty_an h8 h6 (qs_nj_1 (by omega))
    rw [List.append_assoc] at h9
    exact h9
  · rw [if_neg z, List.nil_append]
    exact qs_ty_an h5 h6 (qs_nj_1 (by omega))
end
