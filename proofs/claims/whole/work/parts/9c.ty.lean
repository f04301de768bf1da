/-! typed code, as a list -/
def qs_at (nr n : Nat) (q : Nat × Nat) (H : Nat → List Nat) (i : Nat) : Prop :=
  qw_st nr (nI q.1) (nI q.2) (H i) (H (i + 1)) ∧ q.1 < 1800 ∧ q.2 < 2147483648 ∨ (q.1 = 1810 ∧ q.2 = 0 ∧ ∃ r, H i = 0 :: r ∧ H (i + 1) = 0 :: r) ∨
  ((q.1 = 1800 ∨ q.1 = 1801) ∧ i < q.2 ∧ q.2 ≤ n ∧ H i = 0 :: H (i + 1) ∧ H q.2 = H (i + 1)) ∨
  (q.1 = 1802 ∧ i < q.2 ∧ q.2 ≤ n ∧ H q.2 = H i)
def qs_ty (nr : Nat) (l : List (Nat × Nat)) (s t : List Nat) (hm : Nat) : Prop :=
  ∃ H : Nat → List Nat, H 0 = s ∧ H l.length = t ∧ (∀ i, i ≤ l.length → (H i).length ≤ hm) ∧ ∀ i q, l[i]? = some q → qs_at nr l.length q H i
theorem qs_sh_len (n : Nat) (l : List (Nat × Nat)) : (qs_sh n l).length = l.length := by unfold qs_sh; rw [List.length_map]
theorem qs_sh_app (n : Nat) (l m : List (Nat × Nat)) : qs_sh n (l ++ m) = qs_sh n l ++ qs_sh n m := by unfold qs_sh; rw [List.map_append]
theorem qs_s1_p {q : Nat × Nat} (h : qs_ij q.1 = true) (n : Nat) : qs_s1 n q = (q.1, q.2 + n) := if_pos h
theorem qs_s1_n {q : Nat × Nat} (h : ¬ qs_ij q.1 = true) (n : Nat) : qs_s1 n q = q := if_neg h
theorem qs_s1_0 (q : Nat × Nat) : qs_s1 0 q = q := by unfold qs_s1; split <;> rfl
theorem qs_s1_s1 (a c : Nat) (q : Nat × Nat) : qs_s1 a (qs_s1 c q) = qs_s1 (c + a) q := by
  by_cases h : qs_ij q.1 = true
  · rw [qs_s1_p h, qs_s1_p h, qs_s1_p (q := (q.1, q.2 + c)) h]
    show (q.1, q.2 + c + a) = _
    rw [Nat.add_assoc]
  · rw [qs_s1_n h, qs_s1_n h, qs_s1_n h]
theorem qs_sh_0 (l : List (Nat × Nat)) : qs_sh 0 l = l := by
  unfold qs_sh
  rw [List.map_congr_left (g := id) (fun q _ => qs_s1_0 q), List.map_id]
theorem qs_sh_sh (a c : Nat) (l : List (Nat × Nat)) : qs_sh a (qs_sh c l) = qs_sh (c + a) l := by
  unfold qs_sh
  rw [List.map_map]
  exact List.map_congr_left (fun q _ => qs_s1_s1 a c q)
theorem qs_sh_get (n : Nat) (l : List (Nat × Nat)) {i : Nat} {q : Nat × Nat} (h : (qs_sh n l)[i]? = some q) : ∃ q', l[i]? = some q' ∧ q = qs_s1 n q' := by
  unfold qs_sh at h
  rw [List.getElem?_map] at h
  obtain ⟨q', h1, h2⟩ := Option.map_eq_some_iff.mp h
  exact ⟨q', h1, h2.symm⟩
theorem qs_ltl {α : Type} {l : List α} {i : Nat} {q : α} (h : l[i]? = some q) : i < l.length := (List.getElem?_eq_some_iff.mp h).1
theorem qs_apL {α : Type} {l m : List α} {i : Nat} {q : α} (h : (l ++ m)[i]? = some q) (hi : i < l.length) : l[i]? = some q := by rw [List.getElem?_append_left hi] at h; exact h
theorem qs_apR {α : Type} {l m : List α} {i : Nat} {q : α} (h : (l ++ m)[i]? = some q) (hi : l.length ≤ i) : m[i - l.length]? = some q := by rw [List.getElem?_append_right hi] at h; exact h
/-- no jumps -/
def qs_nj (l : List (Nat × Nat)) : Prop := ∀ q ∈ l, qs_ij q.1 = false
theorem qs_sh_nj {l : List (Nat × Nat)} (h : qs_nj l) (n : Nat) : qs_sh n l = l := by
  unfold qs_sh
  rw [List.map_congr_left (f := qs_s1 n) (g := id) (fun q hq => qs_s1_n (by rw [h q hq]; decide) n), List.map_id]
theorem qs_nj_app {l m : List (Nat × Nat)} (h : qs_nj l) (g : qs_nj m) : qs_nj (l ++ m) := fun q hq => by
  rcases List.mem_append.mp hq with z | z
  · exact h q z
  · exact g q z
theorem qs_nj_nil : qs_nj [] := fun q hq => by cases hq
theorem qs_nj_1 {o a : Nat} (h : o < 1800 ∨ 1802 < o) : qs_nj [(o, a)] := fun q hq => by
  have := List.mem_singleton.mp hq
  rw [this]
  unfold qs_ij
  refine Bool.eq_false_iff.mpr (fun z => ?_)
  have := Bool.and_eq_true_iff.mp z
  have h1 := Nat.ble_eq.mp this.1
  have h2 := Nat.ble_eq.mp this.2
  omega
theorem qs_nj_cv {f t : Nat} (hf : f ≤ 4) (ht : t ≤ 4) : qs_nj (qs_cv f t) := by
  unfold qs_cv
  split
  · exact qs_nj_nil
  · exact qs_nj_1 (by omega)
theorem qs_ij_of {o : Nat} (h : qs_ij o = true) : o = 1800 ∨ o = 1801 ∨ o = 1802 := by
  have := Bool.and_eq_true_iff.mp h
  have h1 := Nat.ble_eq.mp this.1
  have h2 := Nat.ble_eq.mp this.2
  omega
section
variable {nr hm : Nat} {s t u : List Nat} {l m : List (Nat × Nat)}
theorem qs_ty_nil (h : s.length ≤ hm) : qs_ty nr [] s s hm := ⟨fun _ => s, rfl, rfl, fun _ _ => h, fun i q hq => by cases hq⟩
theorem qs_ty_mono {hm' : Nat} (h : qs_ty nr l s t hm) (hh : hm ≤ hm') : qs_ty nr l s t hm' := by
  obtain ⟨H, h1, h2, h3, h4⟩ := h
  exact ⟨H, h1, h2, fun i hi => Nat.le_trans (h3 i hi) hh, h4⟩
/-- an act moved, in a longer code -/
theorem qs_at_mv {n n' k i : Nat} {q : Nat × Nat} {H G : Nat → List Nat} (h : qs_at nr n q H i) (hi : i < n) (hn : k + n ≤ n') (hg : ∀ j, j ≤ n → G (k + j) = H j) : qs_at nr n' (qs_s1 k q) G (k + i) := by
  have g0 := hg i (by omega)
  have g1 := hg (i + 1) (by omega)
  have g1' : G (k + i + 1) = H (i + 1) := g1
  rcases h with ⟨h1, h2, h3⟩ | ⟨h1, h2, r, h3, h4⟩ | ⟨h1, h2, h3, h4, h5⟩ | ⟨h1, h2, h3, h4⟩
  · rw [qs_s1_n (fun z => by have := qs_ij_of z; omega)]
    exact Or.inl ⟨by rw [g0, g1']; exact h1, h2, h3⟩
  · rw [qs_s1_n (fun z => by have := qs_ij_of z; omega)]
    exact Or.inr (Or.inl ⟨h1, h2, r, by rw [g0, h3], by rw [g1', h4]⟩)
  · have hj : qs_ij q.1 = true := by rcases h1 with z | z <;> (rw [z]; rfl)
    rw [qs_s1_p hj]
    refine Or.inr (Or.inr (Or.inl ⟨h1, ?_, ?_, by rw [g0, g1', h4], ?_⟩))
    · show k + i < q.2 + k; omega
    · show q.2 + k ≤ n'; omega
    · show G (q.2 + k) = G (k + i + 1)
      rw [Nat.add_comm q.2 k, hg _ h3, g1', h5]
  · have hj : qs_ij q.1 = true := by rw [h1]; rfl
    rw [qs_s1_p hj]
    refine Or.inr (Or.inr (Or.inr ⟨h1, ?_, ?_, ?_⟩))
    · show k + i < q.2 + k; omega
    · show q.2 + k ≤ n'; omega
    · show G (q.2 + k) = G (k + i)
      rw [Nat.add_comm q.2 k, hg _ h3, g0, h4]
/-- one behind the other -/
theorem qs_ty_app (h : qs_ty nr l s t hm) (g : qs_ty nr m t u hm) : qs_ty nr (l ++ qs_sh l.length m) s u hm := by
  obtain ⟨H, h1, h2, h3, h4⟩ := h
  obtain ⟨G, g1, g2, g3, g4⟩ := g
  have eL : ∀ j, j ≤ l.length → (fun i => if i ≤ l.length then H i else G (i - l.length)) (0 + j) = H j := fun j hj => by
    dsimp only
    rw [Nat.zero_add, if_pos hj]
  have eR : ∀ j, j ≤ m.length → (fun i => if i ≤ l.length then H i else G (i - l.length)) (l.length + j) = G j := fun j hj => by
    dsimp only
    by_cases z : j = 0
    · rw [z, Nat.add_zero, if_pos (Nat.le_refl _), h2, g1]
    · rw [if_neg (by omega), Nat.add_sub_cancel_left]
  have hlen : (l ++ qs_sh l.length m).length = l.length + m.length := by rw [List.length_append, qs_sh_len]
  refine ⟨fun i => if i ≤ l.length then H i else G (i - l.length), ?_, ?_, fun i hi => ?_, fun i q hq => ?_⟩
  · exact (eL 0 (Nat.zero_le _)).trans h1
  · rw [hlen]
    exact (eR _ (Nat.le_refl _)).trans g2
  · rw [hlen] at hi
    by_cases z : i ≤ l.length
    · have := eL i z
      rw [Nat.zero_add] at this
      rw [this]
      exact h3 i z
    · have := eR (i - l.length) (by omega)
      rw [show l.length + (i - l.length) = i by omega] at this
      rw [this]
      exact g3 _ (by omega)
  · have hi2 := qs_ltl hq
    rw [hlen] at hi2
    by_cases z : i < l.length
    · have := qs_at_mv (k := 0) (n' := (l ++ qs_sh l.length m).length) (G := fun i => if i ≤ l.length then H i else G (i - l.length)) (h4 i q (qs_apL hq z)) z (by omega) eL
      rw [Nat.zero_add, qs_s1_0] at this
      exact this
    · obtain ⟨q', e1, e2⟩ := qs_sh_get _ _ (qs_apR hq (by omega))
      have := qs_at_mv (k := l.length) (n' := (l ++ qs_sh l.length m).length) (G := fun i => if i ≤ l.length then H i else G (i - l.length)) (g4 (i - l.length) q' e1) (by omega) (by omega) eR
      rw [show l.length + (i - l.length) = i by omega] at this
      rw [e2]
      exact this
theorem qs_ty_1 {o a : Nat} (h : qw_st nr (nI o) (nI a) s t) (ho : o < 1800) (ha : a < 2147483648) (h1 : s.length ≤ hm) (h2 : t.length ≤ hm) : qs_ty nr [(o, a)] s t hm := by
  refine ⟨fun i => if i = 0 then s else t, rfl, rfl, fun i hi => ?_, fun i q hq => ?_⟩
  · dsimp only
    split <;> assumption
  · have : i = 0 := by have : i < 1 := qs_ltl hq; omega
    subst this
    cases hq
    exact Or.inl ⟨h, ho, ha⟩
theorem qs_ty_an (h : qs_ty nr l s t hm) (g : qs_ty nr m t u hm) (hj : qs_nj m) : qs_ty nr (l ++ m) s u hm := by
  have := qs_ty_app h g
  rw [qs_sh_nj hj] at this
  exact this
theorem qs_ty_mn {nr' : Nat} (h : qs_ty nr l s t hm) (hn : nr ≤ nr') (hs : nr' < 2147483648) : qs_ty nr' l s t hm := by
  obtain ⟨H, h1, h2, h3, h4⟩ := h
  refine ⟨H, h1, h2, h3, fun i q hq => ?_⟩
  rcases h4 i q hq with ⟨z, z2, z3⟩ | z
  · refine Or.inl ⟨?_, z2, z3⟩
    unfold qw_st at z ⊢
    rcases z with z | ⟨z1, z2, z3⟩ | z
    · exact Or.inl z
    · refine Or.inr (Or.inl ⟨z1, z2, (qi_inb_iff _ _).mpr ?_⟩)
      have := (qi_inb_iff _ _).mp z3
      omega
    · exact Or.inr (Or.inr z)
  · exact Or.inr z
end
/-- a conversion -/
theorem qs_ty_cv {nr hm f t : Nat} {s : List Nat} (hf : 1 ≤ f ∧ f ≤ 4 ∧ 1 ≤ t ∧ t ≤ 4 ∨ f = t) (hh : s.length + 1 ≤ hm) : qs_ty nr (qs_cv f t) (f :: s) (t :: s) hm := by
  unfold qs_cv
  by_cases z : f = t
  · rw [if_pos z, z]
    exact qs_ty_nil hh
  · rw [if_neg z]
    refine qs_ty_1 ?_ (by omega) (by decide) hh hh
    unfold qw_st
    refine Or.inr (Or.inr (Or.inr (Or.inr (Or.inr (Or.inr (Or.inr (Or.inr (Or.inr (Or.inr (Or.inr (Or.inr (Or.inr (Or.inr (Or.inl ⟨f, t, s, ?_⟩))))))))))))))
    exact ⟨by omega, by omega, by omega, by omega, rfl, rfl, rfl⟩
/-- what is known of a sum's code -/
def qs_D (nr : Nat) (d : qDen) : Prop := d.1 ≤ 4 ∧ 1 ≤ d.2.2.1 ∧ (1 ≤ d.2.1 ∧ d.2.1 ≤ d.2.2.1) ∧ 0 < d.2.2.2.length ∧ d.2.2.2.length ≤ 6 * d.2.2.1 ∧ ∀ s : List Nat, qs_ty nr d.2.2.2 s (d.1 :: s) (s.length + d.2.1)
