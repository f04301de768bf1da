/-! column: a free row -/
theorem qi_10 {i : Nat} (h : i < 2 ^ 31) : (10 : Int32) ≤ nI i ↔ 10 ≤ i := qi_le (a := 10) (by decide) h
theorem qi_16 {i : Nat} (h : i < 2 ^ 31) : (16 : Int32) ≤ nI i ↔ 16 ≤ i := qi_le (a := 16) (by decide) h
theorem qi_s1 (i : Nat) : nI i + 1 = nI (i + 1) := nI_add i 1
theorem qi_pig : ∀ (n : Nat) (l : List Nat), (∀ i, i < n → i ∈ l) → n ≤ l.length
  | 0, _, _ => Nat.zero_le _
  | n + 1, l, h => by
    have h1 := h n (Nat.lt_succ_self n)
    have h2 := qi_pig n (l.erase n) (fun i hi => (List.mem_erase_of_ne (by omega)).mpr (h i (by omega)))
    rw [List.length_erase_of_mem h1] at h2
    have := List.length_pos_of_mem h1
    omega
theorem qi_free (n : Nat) (l : List Nat) (h : l.length < n) : ∃ i, i < n ∧ i ∉ l := by
  apply Classical.byContradiction
  intro hc
  have := qi_pig n l (fun i hi => Classical.byContradiction (fun q => hc ⟨i, hi, q⟩))
  omega
section
variable {w : qcW} {I : qTI} {L : qTL} {D : qTD} {R : qTR}
theorem fx_isUsed (x : Int32) : ∀ (n i : Nat), 10 < n + i → i ≤ 10 → ∃ b, fX1_isUsed_l2 w n (I, L, D, R, x, nI i) = some (b, I, L, D, R) ∧ (b = true ↔ ∃ e, i ≤ e ∧ e < 10 ∧ I 258 e = x) := by
  intro n
  induction n with
  | zero => intro i h h2; omega
  | succ n ih =>
    intro i hn hi
    rw [fX1_isUsed_l2_s]
    unfold fX1_isUsed_b2
    by_cases h : 10 ≤ i
    · rw [if_pos ((qi_10 (by omega)).mpr h)]
      exact ⟨false, rfl, ⟨(fun q => by cases q), fun ⟨e, h1, h2, _⟩ => by omega⟩⟩
    · rw [if_neg (fun q => h ((qi_10 (by omega)).mp q)), (qi_inb_iff (nI i) 10).mpr (by rw [nI_toInt (by omega)]; omega), qc_gdt, nI_clamp (by omega)]
      by_cases h2 : I 258 i = x
      · rw [if_pos h2]
        exact ⟨true, rfl, ⟨fun _ => ⟨i, Nat.le_refl _, by omega, h2⟩, fun _ => rfl⟩⟩
      · rw [if_neg h2]
        obtain ⟨b, e1, e2⟩ := ih (i + 1) (by omega) (by omega)
        refine ⟨b, ?_, e2.trans ⟨fun ⟨e, h3, h4, h5⟩ => ⟨e, by omega, h4, h5⟩, fun ⟨e, h3, h4, h5⟩ => ⟨e, ?_, h4, h5⟩⟩⟩
        · rw [← e1, qi_s1]
        · rcases Nat.lt_or_ge i e with q | q
          · omega
          · exact absurd (by rw [show e = i by omega] at h5; exact h5) h2
theorem qi_F12 (i : Nat) : 10 < qcF + i := by unfold qcF; omega
theorem qi_F13 : 10 < qcF := by unfold qcF; omega
theorem fx_freeRow (hf : ∃ i, i < 10 ∧ ∀ e, e < 10 → I 258 e ≠ nI i) : ∃ i, i < 10 ∧ (∀ e, e < 10 → I 258 e ≠ nI i) ∧ fX1_freeRow w I L D R = some (nI i, I, L, D, R) := by
  obtain ⟨i0, h0, hi0⟩ := hf
  have key : ∀ (n i : Nat), 10 < n + i → i ≤ i0 → ∃ k, k < 10 ∧ (∀ e, e < 10 → I 258 e ≠ nI k) ∧ fX1_freeRow_l2 w n (I, L, D, R, nI i) = some (nI k, I, L, D, R) := by
    intro n
    induction n with
    | zero => intro i h h2; omega
    | succ n ih =>
      intro i hn hi
      rw [fX1_freeRow_l2_s]
      unfold fX1_freeRow_b2 fX1_isUsed
      rw [if_neg (fun q => by have := (qi_10 (by omega)).mp q; omega)]
      obtain ⟨b, e1, e2⟩ := fx_isUsed (w := w) (I := I) (L := L) (D := D) (R := R) (nI i) qcF 0 (qi_F12 0) (by omega)
      have e1' : fX1_isUsed_l2 w qcF (I, L, D, R, nI i, 0) = some (b, I, L, D, R) := e1
      rw [e1', qc_bds]
      cases b
      · rw [qf_ff]
        refine ⟨i, by omega, fun e he q => ?_, rfl⟩
        have := e2.mpr ⟨e, Nat.zero_le _, he, q⟩
        cases this
      · rw [if_pos rfl]
        obtain ⟨e, _, h4, h5⟩ := e2.mp rfl
        have hne : i ≠ i0 := fun q => hi0 e h4 (by rw [← q]; exact h5)
        obtain ⟨k, k1, k2, k3⟩ := ih (i + 1) (by omega) (by omega)
        exact ⟨k, k1, k2, by rw [← k3, qi_s1]⟩
  obtain ⟨k, k1, k2, k3⟩ := key qcF 0 (qi_F12 0) (by omega)
  exact ⟨k, k1, k2, k3⟩
theorem fm_used (x : Int32) (k4 : qTI × qTL × qTD × qTR × Int32 × Int32 → qcO Int32) : ∀ (n i : Nat) (u : Int32), 10 < n + i → i ≤ 10 → (u = 0 ∨ u = 1) → ∃ v : Int32, (v = 0 ∨ v = 1) ∧ fX12_freeRow_l12 w k4 n (I, L, D, R, x, u, nI i) = k4 (I, L, D, R, x + v, v) ∧ (v = 1 ↔ u = 1 ∨ ∃ e, i ≤ e ∧ e < 10 ∧ I 292 e = x) := by
  intro n
  induction n with
  | zero => intro i u h h2; omega
  | succ n ih =>
    intro i u hn hi hu
    rw [fX12_freeRow_l12_s]
    unfold fX12_freeRow_b12 fX12_freeRow_b54 fX12_freeRow_b32 fX12_freeRow_b37
    by_cases h : 10 ≤ i
    · rw [if_pos ((qi_10 (by omega)).mpr h)]
      refine ⟨u, hu, ?_, ⟨fun q => Or.inl q, ?_⟩⟩
      · rcases hu with rfl | rfl
        · rfl
        · rfl
      · rintro (q | ⟨e, h1, h2, _⟩)
        · exact q
        · omega
    · rw [if_neg (fun q => h ((qi_10 (by omega)).mp q)), (qi_inb_iff (nI i) 10).mpr (by rw [nI_toInt (by omega)]; omega), qc_gdt, nI_clamp (by omega)]
      have e9 : nI i + 1 = nI (i + 1) := nI_add i 1
      rw [e9]
      rcases hu with rfl | rfl
      · rw [if_pos rfl]
        by_cases h2 : I 292 i = x
        · rw [if_pos h2]
          obtain ⟨v, v1, v2, v3⟩ := ih (i + 1) 1 (by omega) (by omega) (Or.inr rfl)
          exact ⟨v, v1, v2, ⟨fun _ => Or.inr ⟨i, Nat.le_refl _, by omega, h2⟩, fun _ => v3.mpr (Or.inl rfl)⟩⟩
        · rw [if_neg h2]
          obtain ⟨v, v1, v2, v3⟩ := ih (i + 1) 0 (by omega) (by omega) (Or.inl rfl)
          refine ⟨v, v1, v2, v3.trans ⟨?_, ?_⟩⟩
          · rintro (q | ⟨e, h3, h4, h5⟩)
            · exact Or.inl q
            · exact Or.inr ⟨e, by omega, h4, h5⟩
          · rintro (q | ⟨e, h3, h4, h5⟩)
            · exact Or.inl q
            · rcases Nat.lt_or_ge i e with q | q
              · exact Or.inr ⟨e, by omega, h4, h5⟩
              · exact absurd (by rw [show e = i by omega] at h5; exact h5) h2
      · rw [if_neg (by decide)]
        obtain ⟨v, v1, v2, v3⟩ := ih (i + 1) 1 (by omega) (by omega) (Or.inr rfl)
        exact ⟨v, v1, v2, ⟨fun _ => Or.inl rfl, fun _ => v3.mpr (Or.inl rfl)⟩⟩
theorem fm_freeRow (hf : ∃ i, i < 11 ∧ ∀ e, e < 10 → I 292 e ≠ nI i) : ∃ i, i < 11 ∧ (∀ e, e < 10 → I 292 e ≠ nI i) ∧ fX12_freeRow w I L D R = some (nI i, I, L, D, R) := by
  obtain ⟨i0, h0, hi0⟩ := hf
  have key : ∀ (n i : Nat), 12 < n + i → i ≤ i0 → ∃ k, k < 11 ∧ (∀ e, e < 10 → I 292 e ≠ nI k) ∧ fX12_freeRow_l4 w (n + 1) (I, L, D, R, nI i, 1) = some (nI k, I, L, D, R) := by
    intro n
    induction n with
    | zero => intro i h h2; omega
    | succ n ih =>
      intro i hn hi
      rw [fX12_freeRow_l4_s]
      unfold fX12_freeRow_b4
      rw [if_neg (by decide)]
      obtain ⟨v, v1, v2, v3⟩ := fm_used (w := w) (I := I) (L := L) (D := D) (R := R) (nI i) (fX12_freeRow_l4 w (n + 1)) qcF 0 0 (qi_F12 0) (by omega) (Or.inl rfl)
      have v2' : fX12_freeRow_l12 w (fX12_freeRow_l4 w (n + 1)) qcF (I, L, D, R, nI i, 0, 0) = fX12_freeRow_l4 w (n + 1) (I, L, D, R, nI i + v, v) := v2
      rw [v2']
      rcases v1 with rfl | rfl
      · rw [fX12_freeRow_l4_s]
        unfold fX12_freeRow_b4
        rw [if_pos rfl, Int32.add_zero]
        refine ⟨i, by omega, fun e he q => ?_, rfl⟩
        have := v3.mpr (Or.inr ⟨e, Nat.zero_le _, he, q⟩)
        revert this
        decide
      · have h5 := v3.mp rfl
        rcases h5 with h5 | ⟨e, _, h6, h7⟩
        · exact absurd h5 (by decide)
        · have hne : i ≠ i0 := fun q => hi0 e h6 (by rw [← q]; exact h7)
          have e9 : nI i + 1 = nI (i + 1) := nI_add i 1
          rw [e9]
          exact ih (i + 1) (by omega) (by omega)
  have hF : qcF = (qcF - 1) + 1 := by unfold qcF; omega
  obtain ⟨k, k1, k2, k3⟩ := key (qcF - 1) 0 (by unfold qcF; omega) (by omega)
  rw [← hF] at k3
  exact ⟨k, k1, k2, k3⟩
/-- cells filled so far -/
def qi_ft {α : Type} (f : Nat → α) (lo t : Nat) (x : α) : Nat → α := fun j => if lo ≤ j ∧ j < lo + t then x else f j
theorem qi_ft_s {α : Type} (f : Nat → α) (lo t : Nat) (x : α) : qi_up (qi_ft f lo t x) (lo + t) x = qi_ft f lo (t + 1) x := by
  funext j
  unfold qi_up qi_ft
  by_cases h : j = lo + t
  · rw [if_pos h, if_pos (by omega)]
  · rw [if_neg h]
    by_cases h2 : lo ≤ j ∧ j < lo + t
    · rw [if_pos h2, if_pos (by omega)]
    · rw [if_neg h2, if_neg (by omega)]
/-- one row of a world replaced -/
def qi_rr {α : Type} (f : Nat → Nat → α) (a : Nat) (g : Nat → α) : Nat → Nat → α := fun b => if b = a then g else f b
theorem qi_rr_on {α : Type} (f : Nat → Nat → α) (a : Nat) (g : Nat → α) : qi_rr f a g a = g := if_pos rfl
theorem qi_rr_off {α : Type} (f : Nat → Nat → α) {a b : Nat} (g : Nat → α) (h : b ≠ a) : qi_rr f a g b = f b := if_neg h
theorem qi_rr_u {α : Type} (f : Nat → Nat → α) (a k : Nat) (g : Nat → α) (x : α) : qc_u (qi_rr f a g) a k x = qi_rr f a (qi_up g k x) := by
  funext b
  by_cases h : b = a
  · rw [h, qi_u_on, qi_rr_on, qi_rr_on]
  · rw [qc_u_off _ _ h, qi_rr_off _ _ h, qi_rr_off _ _ h]
theorem qi_rr_0 {α : Type} (f : Nat → Nat → α) (a : Nat) : qi_rr f a (f a) = f := by
  funext b
  by_cases h : b = a
  · rw [h, qi_rr_on]
  · rw [qi_rr_off _ _ h]
theorem qi_ft_0 {α : Type} (f : Nat → α) (lo : Nat) (x : α) : qi_ft f lo 0 x = f := by
  funext j
  exact if_neg (by omega)
theorem fx_fill {c r : Nat} (hc : c < 10) (hr : r < 10) : ∀ (n t : Nat), 16 < n + t → t ≤ 16 → fX1_make_l32 w n (I, qi_rr L 261 (qi_ft (L 261) (r * 16) t 0), qi_rr D 262 (qi_ft (D 262) (r * 16) t 0), R, nI c, nI r, nI t) = some ((), qc_u I 258 c (nI r), qi_rr L 261 (qi_fl (L 261) (r * 16) 0), qi_rr D 262 (qi_fl (D 262) (r * 16) 0), R) := by
  intro n
  induction n with
  | zero => intro t h h2; omega
  | succ n ih =>
    intro t hn ht
    rw [fX1_make_l32_s]
    unfold fX1_make_b32
    by_cases h : 16 ≤ t
    · have : t = 16 := by omega
      subst this
      rw [if_pos (by decide), (qi_inb_iff (nI c) 10).mpr (by rw [nI_toInt (by omega)]; omega), qc_gdt, nI_clamp (by omega)]
      rfl
    · have e1 : nI r * 16 + nI t = nI (r * 16 + t) := by rw [show (16 : Int32) = nI 16 by decide, qi_mul, nI_add]
      rw [if_neg (fun q => h ((qi_16 (by omega)).mp q)), e1, (qi_inb_iff (nI (r * 16 + t)) 160).mpr (by rw [nI_toInt (by omega)]; omega), qc_gdt, qc_gdt, nI_clamp (by omega), qi_rr_u, qi_rr_u, qi_ft_s, qi_ft_s]
      have e9 : nI t + 1 = nI (t + 1) := nI_add t 1
      rw [e9]
      exact ih (t + 1) (by omega) (by omega)
theorem fm_fill {c r : Nat} (hc : c < 10) (hr : r < 11) : ∀ (n t : Nat), 16 < n + t → t ≤ 16 → fX12_column_l62 w n (I, qi_rr L 295 (qi_ft (L 295) (r * 16) t 0), qi_rr D 296 (qi_ft (D 296) (r * 16) t 0), R, nI c, nI r, nI (r * 16 + t)) = some (1, qc_u I 292 c (nI r), qi_rr L 295 (qi_fl (L 295) (r * 16) 0), qi_rr D 296 (qi_fl (D 296) (r * 16) 0), R) := by
  intro n
  induction n with
  | zero => intro t h h2; omega
  | succ n ih =>
    intro t hn ht
    rw [fX12_column_l62_s]
    unfold fX12_column_b62
    have e0 : (16 : Int32) * nI r + 16 = nI (r * 16 + 16) := by rw [show (16 : Int32) = nI 16 by decide, qi_mul, nI_add, Nat.mul_comm]
    rw [e0]
    by_cases h : 16 ≤ t
    · have : t = 16 := by omega
      subst this
      rw [if_pos (Int32.le_refl _), (qi_inb_iff (nI c) 10).mpr (by rw [nI_toInt (by omega)]; omega), qc_gdt, nI_clamp (by omega)]
      rfl
    · rw [if_neg (fun q => by have := (qi_le (by omega) (by omega)).mp q; omega), (qi_inb_iff (nI (r * 16 + t)) 176).mpr (by rw [nI_toInt (by omega)]; omega), qc_gdt, qc_gdt, nI_clamp (by omega), qi_rr_u, qi_rr_u, qi_ft_s, qi_ft_s]
      have e9 : nI (r * 16 + t) + 1 = nI (r * 16 + (t + 1)) := nI_add (r * 16 + t) 1
      rw [e9]
      exact ih (t + 1) (by omega) (by omega)
theorem qi_F16 : 16 < qcF + 0 := by unfold qcF; omega
theorem pp_column (h : Inv w (I, L, D, R)) (x y z : Int32) : qv_pp w (fun I L D R => fX11_column w I L D R x y z) (fun I L D R => fX12_column w I L D R x y z) (I, L, D, R) := by
  have hz : ∀ J : qTI, (if z < 0 then (some ((-1 : Int32), J, L, D, R)) else (if z ≤ (16 : Int32) then (qc_bd (fX1_make w J L D R x y z) fun r7 I7 L7 D7 R7 => some ((1 : Int32), I7, L7, D7, R7)) else (some ((-1 : Int32), J, L, D, R)))) = if qc_inb z 17 = true then (qc_bd (fX1_make w J L D R x y z) fun r7 I7 L7 D7 R7 => some ((1 : Int32), I7, L7, D7, R7)) else (some ((-1 : Int32), J, L, D, R)) := by
    intro J
    simp only [Int32.lt_iff_toInt_lt, Int32.le_iff_toInt_le, show (0 : Int32).toInt = 0 from rfl, show (16 : Int32).toInt = 16 from rfl]
    by_cases h1 : z.toInt < 0
    · rw [if_pos h1, qi_inbF (by omega), qf_ff]
    · rw [if_neg h1]
      by_cases h2 : z.toInt ≤ 16
      · rw [if_pos h2, (qi_inb_iff z 17).mpr (by omega), if_pos rfl]
      · rw [if_neg h2, qi_inbF (by omega), qf_ff]
  cases hx : qc_inb x 10
  · exact qv_same h (-1) (by simp only [fX11_column, fx_isColumn, hx, qc_bds, qf_ff]) (by simp only [fX12_column, fm_isColumn, hx, qc_bds, qf_ff])
  · cases hy : qc_inb y 8
    · exact qv_same h (-1) (by simp only [fX11_column, fx_isColumn, fx_isLane, hx, hy, qc_bds, qf_ff, if_true]) (by simp only [fX12_column, fm_isColumn, hx, fm_in 8 (show (7 : Int64).toInt = (8 : Nat) - 1 by decide), hy, qc_bds, qf_ff, if_true])
    · cases hzb : qc_inb z 17
      · refine qv_same h (-1) ?_ (by simp only [fX12_column, fm_isColumn, hx, fm_in 8 (show (7 : Int64).toInt = (8 : Nat) - 1 by decide), fm_in 17 (show (16 : Int64).toInt = (17 : Nat) - 1 by decide), hy, hzb, qc_bds, qf_ff, if_true])
        simp only [fX11_column, fx_isColumn, fx_isLane, hx, hy, qc_bds, if_true]
        rw [hz, hzb, qf_ff]
      · obtain ⟨c, hc, hxc, hc2⟩ := qi_k hx (by decide)
        have hcc := h.2.2.2.1
        -- a free row of the class
        obtain ⟨i0, hi0, hf0⟩ := qi_free 10 (((List.range 10).filter (fun e => decide (e ≠ c))).map (fun e => (I 258 e).toNatClampNeg)) (by
          rw [List.length_map]
          have : ∀ c, c < 10 → ((List.range 10).filter (fun e => decide (e ≠ c))).length < 10 := by decide
          exact this c hc)
        obtain ⟨i, hi, ui, ei⟩ := fx_freeRow (w := w) (I := qc_u I 258 c (-1)) (L := L) (D := D) (R := R) ⟨i0, hi0, fun e he q => by
          by_cases hec : e = c
          · rw [hec, qc_u_at] at q
            exact qi_nI_m1 (by omega) q.symm
          · rw [qc_u_ne _ _ (Or.inr hec)] at q
            apply hf0
            rw [List.mem_map]
            exact ⟨e, by rw [List.mem_filter]; exact ⟨List.mem_range.mpr he, decide_eq_true hec⟩, by rw [q, nI_clamp (by omega)]⟩⟩
        -- and of the reference
        obtain ⟨j0, hj0, hg0⟩ := qi_free 11 ((List.range 10).map (fun e => (I 292 e).toNatClampNeg)) (by rw [List.length_map, List.length_range]; decide)
        obtain ⟨j, hj, uj, -⟩ := fm_freeRow (w := w) (I := I) (L := L) (D := D) (R := R) ⟨j0, hj0, fun e he q => by
          apply hg0
          rw [List.mem_map]
          exact ⟨e, List.mem_range.mpr he, by rw [q, nI_clamp (by omega)]⟩⟩
        have ui' : ∀ e, e < 10 → e ≠ c → I 258 e ≠ nI i := fun e he hec q => ui e he (by rw [qc_u_ne _ _ (Or.inr hec)]; exact q)
        have e1 : fX11_column w I L D R x y z = some (1, qc_u (qc_u (qc_u (qc_u I 258 c (-1)) 259 i y) 260 i z) 258 c (nI i), qi_rr L 261 (qi_fl (L 261) (i * 16) 0), qi_rr D 262 (qi_fl (D 262) (i * 16) 0), R) := by
          simp only [fX11_column, fx_isColumn, fx_isLane, hx, hy, qc_bds, if_true]
          rw [hz, hzb, if_pos rfl]
          unfold fX1_make
          rw [hx, qc_gdt, hc2, ei, qc_bds, (qi_inb_iff (nI i) 10).mpr (by rw [nI_toInt (by omega)]; omega), qc_gdt, qc_gdt, nI_clamp (by omega), hxc]
          have := fx_fill (w := w) (I := qc_u (qc_u (qc_u I 258 c (-1)) 259 i y) 260 i z) (L := L) (D := D) (R := R) hc hi qcF 0 qi_F16 (by omega)
          rw [qi_ft_0, qi_ft_0, qi_rr_0, qi_rr_0] at this
          have this' : fX1_make_l32 w qcF (qc_u (qc_u (qc_u I 258 c (-1)) 259 i y) 260 i z, L, D, R, nI c, nI i, 0) = _ := this
          rw [this', qc_bds]
        generalize hI1 : qc_u (qc_u (qc_u (qc_u I 258 c (-1)) 259 i y) 260 i z) 258 c (nI i) = I1 at e1
        have hrow : I1 292 = I 292 := by rw [← hI1, qc_u_off _ _ (by decide), qc_u_off _ _ (by decide), qc_u_off _ _ (by decide), qc_u_off _ _ (by decide)]
        obtain ⟨j', hj', uj', ej⟩ := fm_freeRow (w := w) (I := I1) (L := qi_rr L 261 (qi_fl (L 261) (i * 16) 0)) (D := qi_rr D 262 (qi_fl (D 262) (i * 16) 0)) (R := R) ⟨j, hj, by rw [hrow]; exact uj⟩
        rw [hrow] at uj'
        have e2 : fX12_column w I1 (qi_rr L 261 (qi_fl (L 261) (i * 16) 0)) (qi_rr D 262 (qi_fl (D 262) (i * 16) 0)) R x y z = some (1, qc_u (qc_u (qc_u I1 293 j' y) 294 j' z) 292 c (nI j'), qi_rr (qi_rr L 261 (qi_fl (L 261) (i * 16) 0)) 295 (qi_fl (L 295) (j' * 16) 0), qi_rr (qi_rr D 262 (qi_fl (D 262) (i * 16) 0)) 296 (qi_fl (D 296) (j' * 16) 0), R) := by
          simp only [fX12_column, fm_isColumn, hx, fm_in 8 (show (7 : Int64).toInt = (8 : Nat) - 1 by decide), fm_in 17 (show (16 : Int64).toInt = (17 : Nat) - 1 by decide), hy, hzb, qc_bds, if_true]
          rw [ej, qc_bds, (qi_inb_iff (nI j') 11).mpr (by rw [nI_toInt (by omega)]; omega), qc_gdt, qc_gdt, nI_clamp (by omega), hxc]
          have := fm_fill (w := w) (I := qc_u (qc_u I1 293 j' y) 294 j' z) (L := qi_rr L 261 (qi_fl (L 261) (i * 16) 0)) (D := qi_rr D 262 (qi_fl (D 262) (i * 16) 0)) (R := R) hc hj' qcF 0 qi_F16 (by omega)
          rw [qi_ft_0, qi_ft_0, qi_rr_0, qi_rr_0, Nat.add_zero, qi_rr_off L _ (by decide), qi_rr_off D _ (by decide)] at this
          rw [show (16 : Int32) * nI j' = nI (j' * 16) by rw [show (16 : Int32) = nI 16 by decide, qi_mul, Nat.mul_comm]]
          exact this
        refine ⟨1, _, _, _, _, _, _, _, _, e1, e2, fun _ => ?_⟩
        refine Inv.cols h (fun a ha => ?_) (fun a ha => ?_) (fun a ha => ?_) ?_
        · rw [qc_u_off _ _ (fun q => by rw [q] at ha; cases ha), qc_u_off _ _ (fun q => by rw [q] at ha; cases ha), qc_u_off _ _ (fun q => by rw [q] at ha; cases ha), ← hI1, qc_u_off _ _ (fun q => by rw [q] at ha; cases ha), qc_u_off _ _ (fun q => by rw [q] at ha; cases ha), qc_u_off _ _ (fun q => by rw [q] at ha; cases ha), qc_u_off _ _ (fun q => by rw [q] at ha; cases ha)]
        · rw [qi_rr_off _ _ (fun q => by rw [q] at ha; cases ha), qi_rr_off _ _ (fun q => by rw [q] at ha; cases ha)]
        · rw [qi_rr_off _ _ (fun q => by rw [q] at ha; cases ha), qi_rr_off _ _ (fun q => by rw [q] at ha; cases ha)]
        · have hfin := qi_column hcc (i := i) (j := j') (l := y) (n := z) hc hi hj' ui' uj' hy hzb
          have r1 : (qc_u (qc_u (qc_u I1 293 j' y) 294 j' z) 292 c (nI j')) 258 = qi_up (I 258) c (nI i) := by
            rw [qc_u_off _ _ (by decide), qc_u_off _ _ (by decide), qc_u_off _ _ (by decide), ← hI1, qi_u_on, qc_u_off _ _ (by decide), qc_u_off _ _ (by decide), qi_u_on]
            funext k
            unfold qi_up
            split <;> rfl
          have r2 : (qc_u (qc_u (qc_u I1 293 j' y) 294 j' z) 292 c (nI j')) 292 = qi_up (I 292) c (nI j') := by rw [qi_u_on, qc_u_off _ _ (by decide), qc_u_off _ _ (by decide), hrow]
          have r3 : (qc_u (qc_u (qc_u I1 293 j' y) 294 j' z) 292 c (nI j')) 259 = qi_up (I 259) i y := by rw [qc_u_off _ _ (by decide), qc_u_off _ _ (by decide), qc_u_off _ _ (by decide), ← hI1, qc_u_off _ _ (by decide), qc_u_off _ _ (by decide), qi_u_on, qc_u_off _ _ (by decide)]
          have r4 : (qc_u (qc_u (qc_u I1 293 j' y) 294 j' z) 292 c (nI j')) 293 = qi_up (I 293) j' y := by rw [qc_u_off _ _ (by decide), qc_u_off _ _ (by decide), qi_u_on, ← hI1, qc_u_off _ _ (by decide), qc_u_off _ _ (by decide), qc_u_off _ _ (by decide), qc_u_off _ _ (by decide)]
          have r5 : (qc_u (qc_u (qc_u I1 293 j' y) 294 j' z) 292 c (nI j')) 260 = qi_up (I 260) i z := by rw [qc_u_off _ _ (by decide), qc_u_off _ _ (by decide), qc_u_off _ _ (by decide), ← hI1, qc_u_off _ _ (by decide), qi_u_on, qc_u_off _ _ (by decide), qc_u_off _ _ (by decide)]
          have r6 : (qc_u (qc_u (qc_u I1 293 j' y) 294 j' z) 292 c (nI j')) 294 = qi_up (I 294) j' z := by rw [qc_u_off _ _ (by decide), qi_u_on, qc_u_off _ _ (by decide), ← hI1, qc_u_off _ _ (by decide), qc_u_off _ _ (by decide), qc_u_off _ _ (by decide), qc_u_off _ _ (by decide)]
          rw [r1, r2, r3, r4, r5, r6, qi_rr_on, qi_rr_off _ _ (by decide), qi_rr_on, qi_rr_on, qi_rr_off _ _ (by decide), qi_rr_on]
          exact hfin
end
