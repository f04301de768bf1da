/-! code objects of the class as lists -/
def jl (l : List (Nat × Nat)) (m : Nat) : Prop := ∀ q ∈ l, q.1 < 2000 ∧ q.2 < 2147483648 ∧ (qs_ij q.1 = true → q.2 ≤ m)
def qk_c (c : Nat) (l : List (Nat × Nat)) (I : qTI) : Prop := l.length ≤ 200 → ∀ i q, l[i]? = some q → I (c + 1) i = nI q.1 ∧ I (c + 2) i = nI q.2
def kC (c : Nat) (l : List (Nat × Nat)) (h pk : Nat) (I : qTI) : Prop := (l.length ≤ 5000 ∧ h ≤ 1000 ∧ pk ≤ 1000) ∧ I c 2 = nI l.length ∧ I c 3 = nI h ∧ I c 4 = nI pk ∧ jl l l.length ∧ qk_c c l I
def fC (c : Nat) (I I' : qTI) : Prop := ∀ x, x ≠ c → x ≠ c + 1 → x ≠ c + 2 → I' x = I x
theorem jl_app {l m : List (Nat × Nat)} {n : Nat} (h : jl l n) (g : jl m n) : jl (l ++ m) n := fun q hq => by
  rcases List.mem_append.mp hq with z | z
  · exact h q z
  · exact g q z
theorem jl_up {l : List (Nat × Nat)} {n m : Nat} (h : jl l n) (hn : n ≤ m) : jl l m := fun q hq => ⟨(h q hq).1, (h q hq).2.1, fun z => Nat.le_trans ((h q hq).2.2 z) hn⟩
theorem jl_1 {o a n : Nat} (ho : o < 2000) (ha : a < 2147483648) (hj : qs_ij o = true → a ≤ n) : jl [(o, a)] n := fun q hq => by
  have := List.mem_singleton.mp hq
  rw [this]
  exact ⟨ho, ha, hj⟩
theorem jl_nil (n : Nat) : jl [] n := fun q hq => by cases hq
theorem qh_t (o : Nat) (ho : o < 2000) : qh (nI o) = if 10 ≤ o then (if 20 ≤ o then (if 100 ≤ o then (if o < 1200 then -1 else if o ≤ 1400 then 0 else if o < 1500 then -1 else if o ≤ 1750 then 0 else if o = 1800 ∨ o = 1801 then -1 else if 1800 ≤ o then 0 else -1) else -2) else 0) else 1 := by
  have a1 : ∀ k, k < 2000 → (nI k ≤ nI o ↔ k ≤ o) := fun k hk => qi_le (by omega) (by omega)
  have a2 : ∀ k, k < 2000 → (nI o ≤ nI k ↔ o ≤ k) := fun k hk => qi_le (by omega) (by omega)
  have a3 : ∀ k, k < 2000 → (nI o < nI k ↔ o < k) := fun k hk => qi_lt (by omega) (by omega)
  have a4 : ∀ k, k < 2000 → (nI o = nI k ↔ o = k) := fun k hk => qi_nI_inj' (by omega) (by omega)
  have b1 : (10 ≤ nI o) = (10 ≤ o) := propext (a1 10 (by decide))
  have b2 : (20 ≤ nI o) = (20 ≤ o) := propext (a1 20 (by decide))
  have b3 : (100 ≤ nI o) = (100 ≤ o) := propext (a1 100 (by decide))
  have b4 : (nI o < 1200) = (o < 1200) := propext (a3 1200 (by decide))
  have b5 : (nI o ≤ 1400) = (o ≤ 1400) := propext (a2 1400 (by decide))
  have b6 : (nI o ≤ 1750) = (o ≤ 1750) := propext (a2 1750 (by decide))
  have b7 : (nI o = 1800) = (o = 1800) := propext (a4 1800 (by decide))
  have b8 : (nI o = 1801) = (o = 1801) := propext (a4 1801 (by decide))
  have b9 : (1800 ≤ nI o) = (1800 ≤ o) := propext (a1 1800 (by decide))
  have b10 : (nI o < 1500) = (o < 1500) := propext (a3 1500 (by decide))
  unfold qh
  simp only [b1, b2, b3, b4, b5, b6, b7, b8, b9, b10]
  by_cases c1 : 10 ≤ o
  · by_cases c2 : 20 ≤ o
    · by_cases c3 : 100 ≤ o
      · by_cases c4 : o < 1200
        · simp only [c1, c2, c3, c4, if_true]
        · by_cases c5 : o ≤ 1400
          · simp only [c1, c2, c3, c4, c5, if_true, if_false, show o ≤ 1750 by omega, show ¬ o = 1800 by omega, show ¬ o = 1801 by omega]
          · by_cases c6 : o < 1500
            · simp only [c1, c2, c3, c4, c5, c6, if_true, if_false]
            · by_cases c7 : o ≤ 1750
              · simp only [c1, c2, c3, c4, c5, c6, c7, if_true, if_false, show ¬ o = 1800 by omega, show ¬ o = 1801 by omega]
              · by_cases c8 : o = 1800
                · subst c8; decide
                · by_cases c9 : o = 1801
                  · subst c9; decide
                  · simp only [c1, c2, c3, c4, c5, c6, c7, c8, c9, if_true, if_false, or_self]
      · simp only [c1, c2, c3, if_true, if_false]
    · simp only [c1, c2, if_true, if_false]
  · simp only [c1, if_false]
theorem qh_1 {o : Nat} (h : o < 10) : qh (nI o) = 1 := by rw [qh_t o (by omega), if_neg (by omega)]
theorem qh_0 {o : Nat} (ho : o < 2000) (h : (10 ≤ o ∧ o < 20) ∨ (1200 ≤ o ∧ o ≤ 1400) ∨ (1500 ≤ o ∧ o ≤ 1750) ∨ 1802 ≤ o) : qh (nI o) = 0 := by
  rw [qh_t o ho]
  rcases h with h | h | h | h
  · rw [if_pos (by omega), if_neg (by omega)]
  · rw [if_pos (by omega), if_pos (by omega), if_pos (by omega), if_neg (by omega), if_pos (by omega)]
  · rw [if_pos (by omega), if_pos (by omega), if_pos (by omega), if_neg (by omega), if_neg (by omega), if_neg (by omega), if_pos (by omega)]
  · rw [if_pos (by omega), if_pos (by omega), if_pos (by omega), if_neg (by omega), if_neg (by omega), if_neg (by omega), if_neg (by omega), if_neg (by omega), if_pos (by omega)]
theorem qh_m {o : Nat} (h : (100 ≤ o ∧ o < 1200) ∨ (1400 < o ∧ o < 1500) ∨ (1750 < o ∧ o ≤ 1801)) : qh (nI o) = -1 := by
  rw [qh_t o (by omega)]
  rcases h with h | h | h
  · rw [if_pos (by omega), if_pos (by omega), if_pos (by omega), if_pos (by omega)]
  · rw [if_pos (by omega), if_pos (by omega), if_pos (by omega), if_neg (by omega), if_neg (by omega), if_pos (by omega)]
  · rw [if_pos (by omega), if_pos (by omega), if_pos (by omega), if_neg (by omega), if_neg (by omega), if_neg (by omega), if_neg (by omega)]
    by_cases z : o = 1800 ∨ o = 1801
    · rw [if_pos z]
    · rw [if_neg z, if_neg (by omega)]
theorem qh_m2 {o : Nat} (h : 20 ≤ o ∧ o < 100) : qh (nI o) = -2 := by rw [qh_t o (by omega), if_pos (by omega), if_pos (by omega), if_neg (by omega)]
section
variable {w : qcW} {I : qTI} {L : qTL} {D : qTD} {R : qTR} {c : Nat} {l : List (Nat × Nat)} {h pk : Nat}
theorem kC_co {I' : qTI} (hk : kC c l h pk I) (e : ∀ k, 2 ≤ k → k ≤ 4 → I' c k = I c k) (e1 : I' (c + 1) = I (c + 1)) (e2 : I' (c + 2) = I (c + 2)) : kC c l h pk I' := by
  unfold kC qk_c at hk ⊢
  rw [e 2 (by decide) (by decide), e 3 (by decide) (by decide), e 4 (by decide) (by decide), e1, e2]
  exact hk
theorem kC_add (hW : qc_WF w) (hR : qc_FR R) (hc : c = 270 ∨ c = 273 ∨ c = 276) (hk : kC c l h pk I) {o a h' : Nat} (ho : o < 2000) (ha : a < 2147483648) (hj : qs_ij o = true → a ≤ l.length + 1) (hh : nI h + qh (nI o) = nI h') (hl : l.length < 5000) (h1 : h' ≤ 1000) :
    ∃ I' : qTI, fX0_add w I L D R c (nI o) (nI a) = some ((), I', L, D, R) ∧ kC c (l ++ [(o, a)]) h' (max pk h') I' ∧ fC c I I' := by
  obtain ⟨⟨b1, b2, b3⟩, k2, k3, k4, k5, k6⟩ := hk
  obtain ⟨I', e1, e2, e3, e4, e5, e6, e7, e8⟩ := cx_add (w := w) (L := L) (D := D) hW hR hc k2 (by omega) (nI o) (nI a)
  have hlen : (l ++ [(o, a)]).length = l.length + 1 := by rw [List.length_append]; rfl
  refine ⟨I', e1, ⟨⟨by omega, h1, by omega⟩, by rw [hlen]; exact e3, by rw [e4, k3, hh], ?_, ?_, ?_⟩, e2⟩
  · rw [e5, k3, k4, hh]
    by_cases z : pk < h'
    · rw [if_pos ((qi_lt (by omega) (by omega)).mpr z), Nat.max_eq_right (by omega)]
    · rw [if_neg (fun y => z ((qi_lt (by omega) (by omega)).mp y)), Nat.max_eq_left (by omega)]
  · rw [hlen]
    exact jl_app (jl_up k5 (Nat.le_succ _)) (jl_1 ho ha hj)
  · intro hle i q hq
    rw [hlen] at hle
    obtain ⟨g1, g2⟩ := e7 (by omega)
    by_cases z : i < l.length
    · have := k6 (by omega) i q (qs_apL hq z)
      rw [g1, g2, qi_up_ne _ _ (by omega), qi_up_ne _ _ (by omega)]
      exact this
    · have hq2 := qs_apR hq (by omega)
      have hi : i - l.length = 0 := by have : i - l.length < 1 := qs_ltl hq2; omega
      rw [hi] at hq2
      cases hq2
      rw [g1, g2, show i = l.length by omega, qi_up_at, qi_up_at]
      exact ⟨rfl, rfl⟩
/-- a jump, told where it goes -/
theorem kC_aim (hW : qc_WF w) (hR : qc_FR R) (hc : c = 270 ∨ c = 273 ∨ c = 276) {l1 l2 : List (Nat × Nat)} {o a : Nat} (hk : kC c (l1 ++ (o, a) :: l2) h pk I) :
    ∃ I' : qTI, fX0_aim w I L D R c (nI l1.length) = some ((), I', L, D, R) ∧ kC c (l1 ++ (o, (l1 ++ (o, a) :: l2).length) :: l2) h pk I' ∧ fC c I I' ∧ I' c = I c := by
  obtain ⟨⟨b1, b2, b3⟩, k2, k3, k4, k5, k6⟩ := hk
  have hlen : (l1 ++ (o, a) :: l2).length = l1.length + (l2.length + 1) := by rw [List.length_append]; rfl
  have hlen2 : (l1 ++ (o, (l1 ++ (o, a) :: l2).length) :: l2).length = l1.length + (l2.length + 1) := by rw [List.length_append]; rfl
  have hoff : ∀ x, x ≠ c + 2 → (if l1.length < 200 then qc_u I (c + 2) l1.length (I c 2) else I) x = I x := fun x hx => by
    split
    · exact qc_u_off _ _ hx
    · rfl
  refine ⟨_, cx_aim hW hR hc (by omega), ⟨⟨by omega, b2, b3⟩, ?_, ?_, ?_, ?_, ?_⟩, fun x _ _ h3 => hoff x h3, hoff c (by omega)⟩
  · rw [hoff c (by omega), k2, hlen2, hlen]
  · rw [hoff c (by omega), k3]
  · rw [hoff c (by omega), k4]
  · intro q hq
    rw [hlen2]
    rcases List.mem_append.mp hq with z | z
    · have := k5 q (List.mem_append_left _ z)
      rw [hlen] at this
      exact this
    · rcases List.mem_cons.mp z with y | y
      · have := k5 (o, a) (List.mem_append_right _ List.mem_cons_self)
        rw [y, hlen]
        exact ⟨this.1, by show l1.length + (l2.length + 1) < _; omega, fun _ => Nat.le_refl _⟩
      · have := k5 q (List.mem_append_right _ (List.mem_cons_of_mem _ y))
        rw [hlen] at this
        exact this
  · intro hle i q hq
    rw [hlen2] at hle
    rw [if_pos (by omega), qc_u_off _ _ (show c + 1 ≠ c + 2 by omega), qi_u_on, k2]
    have k6 := k6 (by omega)
    by_cases z : i = l1.length
    · subst z
      have hq2 := qs_apR hq (Nat.le_refl _)
      rw [Nat.sub_self] at hq2
      cases hq2
      rw [qi_up_at]
      have := k6 l1.length (o, a) (by rw [List.getElem?_append_right (Nat.le_refl _), Nat.sub_self]; rfl)
      exact ⟨this.1, rfl⟩
    · rw [qi_up_ne _ _ z]
      refine k6 i q ?_
      by_cases y : i < l1.length
      · rw [List.getElem?_append_left y]
        exact qs_apL hq y
      · have hq2 := qs_apR hq (by omega)
        rw [List.getElem?_append_right (by omega)]
        rw [show i - l1.length = (i - l1.length - 1) + 1 by omega] at hq2 ⊢
        exact hq2
theorem kC_otherWay (hW : qc_WF w) (hc : c = 270 ∨ c = 273 ∨ c = 276) (hk : kC c l (h + 1) pk I) : ∃ I' : qTI, fX0_otherWay w I L D R c = some ((), I', L, D, R) ∧ kC c l h pk I' ∧ fC c I I' := by
  obtain ⟨⟨b1, b2, b3⟩, k2, k3, k4, k5, k6⟩ := hk
  refine ⟨_, cx_otherWay hW hc, ⟨⟨b1, by omega, b3⟩, ?_, ?_, ?_, k5, ?_⟩, fun x h1 _ _ => qc_u_off _ _ h1⟩
  · rw [qc_u_ne _ _ (Or.inr (by decide)), k2]
  · rw [qc_u_at, k3]
    exact qi_sub (a := h + 1) (b := 1) (by omega)
  · rw [qc_u_ne _ _ (Or.inr (by decide)), k4]
  · unfold qk_c
    rw [qc_u_off _ _ (by omega), qc_u_off _ _ (by omega)]
    exact k6
/-- goals behind a place move on -/
def qs_mg (at_ : Nat) (q : Nat × Nat) : Nat × Nat := if qs_ij q.1 = true ∧ at_ < q.2 then (q.1, q.2 + 1) else q
theorem kC_cvat (hW : qc_WF w) (hR : qc_FR R) (hc : c = 270 ∨ c = 273 ∨ c = 276) {l1 l2 : List (Nat × Nat)} {f t : Nat} (hf : f ≤ 4) (ht : t ≤ 4) (hk : kC c (l1 ++ l2) h pk I) (hl : (l1 ++ l2).length < 5000) :
    ∃ I' : qTI, fX0_convertAt w I L D R c (nI l1.length) (nI f) (nI t) = some ((), I', L, D, R) ∧ kC c (if f = t then l1 ++ l2 else l1.map (qs_mg l1.length) ++ (1600 + 10 * f + t, 0) :: l2.map (qs_mg l1.length)) h pk I' ∧ fC c I I' := by
  obtain ⟨w1, w2, w3, w4, w5, s1, s2, s3⟩ := qc_WF_io hW hc
  unfold fX0_convertAt
  rw [w1, qc_gdt]
  by_cases e : f = t
  · rw [if_pos (by rw [e]), if_pos e]
    exact ⟨I, rfl, hk, fun _ _ _ _ => rfl⟩
  rw [if_neg (fun z => e ((qi_nI_inj' (by omega) (by omega)).mp z)), if_neg e]
  obtain ⟨⟨b1, b2, b3⟩, k2, k3, k4, k5, k6⟩ := hk
  have hlen : (l1 ++ l2).length = l1.length + l2.length := List.length_append
  have hlen2 : (l1.map (qs_mg l1.length) ++ (1600 + 10 * f + t, 0) :: l2.map (qs_mg l1.length)).length = l1.length + l2.length + 1 := by
    rw [List.length_append, List.length_cons, List.length_map, List.length_map]; omega
  have hjl : jl (l1.map (qs_mg l1.length) ++ (1600 + 10 * f + t, 0) :: l2.map (qs_mg l1.length)) (l1.length + l2.length + 1) := by
    have mg : ∀ q ∈ l1 ++ l2, (qs_mg l1.length q).1 < 2000 ∧ (qs_mg l1.length q).2 < 2147483648 ∧ (qs_ij (qs_mg l1.length q).1 = true → (qs_mg l1.length q).2 ≤ l1.length + l2.length + 1) := by
      intro q hq
      obtain ⟨x1, x2, x3⟩ := k5 q hq
      unfold qs_mg
      by_cases z : qs_ij q.1 = true ∧ l1.length < q.2
      · rw [if_pos z]
        have := x3 z.1
        exact ⟨x1, by show q.2 + 1 < _; omega, fun _ => by show q.2 + 1 ≤ _; omega⟩
      · rw [if_neg z]
        exact ⟨x1, x2, fun y => by have := x3 y; omega⟩
    intro q hq
    rcases List.mem_append.mp hq with z | z
    · obtain ⟨q', z1, z2⟩ := List.mem_map.mp z
      rw [← z2]
      exact mg q' (List.mem_append_left _ z1)
    · rcases List.mem_cons.mp z with y | y
      · rw [y]
        exact ⟨by show 1600 + 10 * f + t < 2000; omega, by show 0 < 2147483648; decide, fun _ => Nat.zero_le _⟩
      · obtain ⟨q', z1, z2⟩ := List.mem_map.mp y
        rw [← z2]
        exact mg q' (List.mem_append_right _ z1)
  rw [k2]
  by_cases hn : 200 ≤ (l1 ++ l2).length
  · rw [if_pos (show (200 : Int32) ≤ nI (l1 ++ l2).length from (qi_le (a := 200) (by decide) (by omega)).mpr hn)]
    unfold fX0_convertAt_b89
    rw [w1, qc_gdt, s1, qc_gdt, k2, qi_s1]
    refine ⟨_, rfl, ⟨⟨by omega, b2, b3⟩, by rw [qc_u_at, hlen2, hlen], ?_, ?_, by rw [hlen2]; exact hjl, fun z => by omega⟩, fun x h1 _ _ => qc_u_off _ _ h1⟩
    · rw [qc_u_ne _ _ (Or.inr (by decide)), k3]
    · rw [qc_u_ne _ _ (Or.inr (by decide)), k4]
  · rw [if_neg (show ¬ (200 : Int32) ≤ nI (l1 ++ l2).length from fun z => hn ((qi_le (a := 200) (by decide) (by omega)).mp z))]
    obtain ⟨I', e1, e2, e3, e4, e5, e6⟩ := cx_shift (w := w) (L := L) (D := D) (at_ := l1.length) hW hR hc (show (l1 ++ l2).length < 200 by omega) (nI f) (nI t) l2.length qcF (l1 ++ l2).length I I (by omega) (Nat.le_refl _) (by unfold qcF; omega) k2 (fun _ _ _ => rfl) (qm_sf_n _ _).symm (qm_sf_n _ _).symm
    have ecv : (1600 : Int32) + 10 * nI f + nI t = nI (1600 + 10 * f + t) := by
      rw [show (10 : Int32) = nI 10 by decide, show (1600 : Int32) = nI 1600 by decide, qi_mul, nI_add, nI_add]
    rw [ecv] at e5 e6
    refine ⟨I', e1, ⟨⟨by omega, b2, b3⟩, by rw [hlen2, ← hlen]; exact e3, by rw [e4 3 (by decide), k3], by rw [e4 4 (by decide), k4], by rw [hlen2]; exact hjl, ?_⟩, e2⟩
    intro hle i q hq
    rw [e5, e6]
    have k6 := k6 (by omega)
    -- an entry of the old code, wherever it lies now
    have old : ∀ j q', (l1 ++ l2)[j]? = some q' → ∀ i', i' ≠ l1.length → (qm_sf l1.length (l1 ++ l2).length (I (c + 1)) i' = I (c + 1) j) → (qm_sf l1.length (l1 ++ l2).length (I (c + 2)) i' = I (c + 2) j) → i' ≤ (l1 ++ l2).length → qi_up (qm_sf l1.length (l1 ++ l2).length (I (c + 1))) l1.length (nI (1600 + 10 * f + t)) i' = nI (qs_mg l1.length q').1 ∧ qm_go l1.length (l1 ++ l2).length 0 (qi_up (qm_sf l1.length (l1 ++ l2).length (I (c + 1))) l1.length (nI (1600 + 10 * f + t))) (qi_up (qm_sf l1.length (l1 ++ l2).length (I (c + 2))) l1.length 0) i' = nI (qs_mg l1.length q').2 := by
      intro j q' hj i' hne h1 h2 hle'
      obtain ⟨x1, x2, x3⟩ := k5 q' (List.mem_of_getElem? hj)
      obtain ⟨y1, y2⟩ := k6 j q' hj
      unfold qm_go
      rw [qi_up_ne _ _ hne, qi_up_ne _ _ hne, h1, h2, y1, y2]
      have hij : (1800 ≤ nI q'.1 ∧ nI q'.1 ≤ 1802) ↔ qs_ij q'.1 = true := by
        unfold qs_ij
        rw [Bool.and_eq_true_iff, Nat.ble_eq, Nat.ble_eq]
        exact and_congr (qi_le (a := 1800) (by decide) (by omega)) (qi_le (b := 1802) (by omega) (by decide))
      have hat : nI l1.length < nI q'.2 ↔ l1.length < q'.2 := qi_lt (by omega) (by omega)
      unfold qs_mg
      by_cases z : qs_ij q'.1 = true ∧ l1.length < q'.2
      · rw [if_pos z, if_pos ⟨Nat.zero_le _, hle', hij.mpr z.1, hat.mpr z.2⟩, qi_s1]
        exact ⟨rfl, rfl⟩
      · rw [if_neg z, if_neg (fun y => z ⟨hij.mp y.2.2.1, hat.mp y.2.2.2⟩)]
        exact ⟨rfl, rfl⟩
    by_cases z1 : i < l1.length
    · have hq2 := qs_apL hq (by rw [List.length_map]; exact z1)
      rw [List.getElem?_map] at hq2
      obtain ⟨q', g1, g2⟩ := Option.map_eq_some_iff.mp hq2
      rw [← g2]
      exact old i q' (by rw [List.getElem?_append_left z1]; exact g1) i (by omega) (if_neg (by omega)) (if_neg (by omega)) (by omega)
    · have hq2 := qs_apR hq (by rw [List.length_map]; omega)
      rw [List.length_map] at hq2
      by_cases z2 : i = l1.length
      · subst z2
        rw [Nat.sub_self] at hq2
        cases hq2
        unfold qm_go
        rw [qi_up_at, qi_up_at, if_neg (fun y => by have := (qi_lt (a := l1.length) (b := 0) (by omega) (by decide)).mp y.2.2.2; omega)]
        exact ⟨rfl, rfl⟩
      · rw [show i - l1.length = (i - l1.length - 1) + 1 by omega] at hq2
        have hq3 : (l2.map (qs_mg l1.length))[i - l1.length - 1]? = some q := hq2
        rw [List.getElem?_map] at hq3
        obtain ⟨q', g1, g2⟩ := Option.map_eq_some_iff.mp hq3
        have hlt := qs_ltl g1
        rw [← g2]
        exact old (i - 1) q' (by rw [List.getElem?_append_right (by omega), show i - 1 - l1.length = i - l1.length - 1 by omega]; exact g1) i z2 (if_pos (by omega)) (if_pos (by omega)) (by omega)
end
