/-! what binds the two: columns -/
def qi_co (l : Int32) (a : Int64) (d : UInt64) : Prop := (l = 0 → a = 0 ∨ a = 1) ∧ (l < 5 → a = a.toInt32.toInt64) ∧ qc_n64 d = true ∧ (l = 6 → ∃ f : UInt32, qc_n32 f = true ∧ d = FP.f2d f)
def qi_rw (i j : Nat) (lX lM sX sM : Nat → Int32) (aX aM : Nat → Int64) (dX dM : Nat → UInt64) : Prop :=
  i < 10 ∧ j < 11 ∧ lX i = lM j ∧ qc_inb (lX i) 8 = true ∧ sX i = sM j ∧ qc_inb (sX i) 17 = true ∧ ∀ t, t < 16 → aX (i * 16 + t) = aM (j * 16 + t) ∧ dX (i * 16 + t) = dM (j * 16 + t) ∧ qi_co (lX i) (aX (i * 16 + t)) (dX (i * 16 + t))
def qi_col (rX rM lX lM sX sM : Nat → Int32) (aX aM : Nat → Int64) (dX dM : Nat → UInt64) (c : Nat) : Prop :=
  (rX c = -1 ∧ rM c = -1) ∨ ∃ i j : Nat, rX c = nI i ∧ rM c = nI j ∧ qi_rw i j lX lM sX sM aX aM dX dM
def qi_cols (rX rM lX lM sX sM : Nat → Int32) (aX aM : Nat → Int64) (dX dM : Nat → UInt64) : Prop :=
  (∀ c, c < 10 → qi_col rX rM lX lM sX sM aX aM dX dM c) ∧ ∀ c d, c < 10 → d < 10 → (rX c = rX d ↔ rM c = rM d)
def qi_up {α : Type} (f : Nat → α) (k : Nat) (x : α) : Nat → α := fun j => if j = k then x else f j
theorem qi_up_at {α : Type} (f : Nat → α) (k : Nat) (x : α) : qi_up f k x k = x := if_pos rfl
theorem qi_up_ne {α : Type} (f : Nat → α) {k j : Nat} (x : α) (h : j ≠ k) : qi_up f k x j = f j := if_neg h
theorem qi_u_on {α : Type} (f : Nat → Nat → α) (a k : Nat) (x : α) : qc_u f a k x a = qi_up (f a) k x := by funext j; simp [qc_u, qi_up]
theorem qi_nI_m1 {i : Nat} (h : i < 2 ^ 31) : ¬ nI i = -1 := by
  intro e
  have h1 := nI_toInt h
  rw [e] at h1
  have : (-1 : Int32).toInt = -1 := rfl
  omega
theorem qi_nI_inj {i j : Nat} (hi : i < 2 ^ 31) (hj : j < 2 ^ 31) (h : nI i = nI j) : i = j := (nI_eq hi hj).mp h
theorem qi_nI_inj' {i j : Nat} (hi : i < 2 ^ 31) (hj : j < 2 ^ 31) : nI i = nI j ↔ i = j := nI_eq hi hj
theorem qi_le {a b : Nat} (ha : a < 2 ^ 31) (hb : b < 2 ^ 31) : nI a ≤ nI b ↔ a ≤ b := by rw [Int32.le_iff_toInt_le, nI_toInt ha, nI_toInt hb]; omega
theorem qi_lt {a b : Nat} (ha : a < 2 ^ 31) (hb : b < 2 ^ 31) : nI a < nI b ↔ a < b := by rw [Int32.lt_iff_toInt_lt, nI_toInt ha, nI_toInt hb]; omega
theorem qi_mul (a b : Nat) : nI a * nI b = nI (a * b) := (Int32.ofNat_mul a b).symm
section
variable {rX rM lX lM sX sM : Nat → Int32} {aX aM : Nat → Int64} {dX dM : Nat → UInt64}
/-- share -/
theorem qi_share (h : qi_cols rX rM lX lM sX sM aX aM dX dM) {c d : Nat} (hc : c < 10) (hd : d < 10) : qi_cols (qi_up rX c (rX d)) (qi_up rM c (rM d)) lX lM sX sM aX aM dX dM := by
  have key : ∀ e, e < 10 → ∃ e', e' < 10 ∧ qi_up rX c (rX d) e = rX e' ∧ qi_up rM c (rM d) e = rM e' := by
    intro e he
    by_cases q : e = c
    · exact ⟨d, hd, by rw [q, qi_up_at], by rw [q, qi_up_at]⟩
    · exact ⟨e, he, qi_up_ne _ _ q, qi_up_ne _ _ q⟩
  refine ⟨fun e he => ?_, fun e f he hf => ?_⟩
  · obtain ⟨e', he', h1, h2⟩ := key e he
    unfold qi_col
    rw [h1, h2]
    exact h.1 e' he'
  · obtain ⟨e', he', h1, h2⟩ := key e he
    obtain ⟨f', hf', h3, h4⟩ := key f hf
    rw [h1, h2, h3, h4]
    exact h.2 e' f' he' hf'
theorem qi_none_iff (h : qi_cols rX rM lX lM sX sM aX aM dX dM) {c : Nat} (hc : c < 10) : rX c = -1 ↔ rM c = -1 := by
  rcases h.1 c hc with ⟨a, b⟩ | ⟨i, j, a, b, h1, h2, -⟩
  · rw [a, b]
  · rw [a, b]
    exact ⟨fun e => absurd e (qi_nI_m1 (by omega)), fun e => absurd e (qi_nI_m1 (by omega))⟩
/-- drop -/
theorem qi_drop (h : qi_cols rX rM lX lM sX sM aX aM dX dM) {c : Nat} (hc : c < 10) : qi_cols (qi_up rX c (-1)) (qi_up rM c (-1)) lX lM sX sM aX aM dX dM := by
  refine ⟨fun e he => ?_, fun e f he hf => ?_⟩
  · by_cases q : e = c
    · exact Or.inl ⟨by rw [q, qi_up_at], by rw [q, qi_up_at]⟩
    · unfold qi_col
      rw [qi_up_ne _ _ q, qi_up_ne _ _ q]
      exact h.1 e he
  · by_cases q : e = c <;> by_cases q' : f = c
    · rw [q, q']
      exact ⟨fun _ => rfl, fun _ => rfl⟩
    · rw [q, qi_up_at, qi_up_at, qi_up_ne _ _ q', qi_up_ne _ _ q']
      exact ⟨fun e => ((qi_none_iff h hf).mp e.symm).symm, fun e => ((qi_none_iff h hf).mpr e.symm).symm⟩
    · rw [q', qi_up_at, qi_up_at, qi_up_ne _ _ q, qi_up_ne _ _ q]
      exact qi_none_iff h he
    · rw [qi_up_ne _ _ q, qi_up_ne _ _ q, qi_up_ne _ _ q', qi_up_ne _ _ q']
      exact h.2 e f he hf
def qi_fl {α : Type} (f : Nat → α) (lo : Nat) (x : α) : Nat → α := fun j => if lo ≤ j ∧ j < lo + 16 then x else f j
theorem qi_co0 (l : Int32) : qi_co l 0 0 := by
  refine ⟨fun _ => Or.inl rfl, fun _ => rfl, by decide, fun _ => ⟨0, by decide, by decide⟩⟩
/-- column -/
theorem qi_column (h : qi_cols rX rM lX lM sX sM aX aM dX dM) {c i j : Nat} {l n : Int32} (hc : c < 10) (hi : i < 10) (hj : j < 11) (ui : ∀ e, e < 10 → e ≠ c → rX e ≠ nI i) (uj : ∀ e, e < 10 → rM e ≠ nI j) (hl : qc_inb l 8 = true) (hn : qc_inb n 17 = true) :
    qi_cols (qi_up rX c (nI i)) (qi_up rM c (nI j)) (qi_up lX i l) (qi_up lM j l) (qi_up sX i n) (qi_up sM j n) (qi_fl aX (i * 16) 0) (qi_fl aM (j * 16) 0) (qi_fl dX (i * 16) 0) (qi_fl dM (j * 16) 0) := by
  refine ⟨fun e he => ?_, fun e f he hf => ?_⟩
  · by_cases q : e = c
    · refine Or.inr ⟨i, j, by rw [q, qi_up_at], by rw [q, qi_up_at], hi, hj, by rw [qi_up_at, qi_up_at], by rw [qi_up_at]; exact hl, by rw [qi_up_at, qi_up_at], by rw [qi_up_at]; exact hn, fun t ht => ?_⟩
      unfold qi_fl
      rw [if_pos (by omega), if_pos (by omega), if_pos (by omega), if_pos (by omega)]
      exact ⟨rfl, rfl, qi_co0 _⟩
    · unfold qi_col
      rw [qi_up_ne _ _ q, qi_up_ne _ _ q]
      rcases h.1 e he with h1 | ⟨i', j', a, b, h1, h2, h3, h4, h5, h6, h7⟩
      · exact Or.inl h1
      · have ni : i' ≠ i := fun z => ui e he q (by rw [a, z])
        have nj : j' ≠ j := fun z => uj e he (by rw [b, z])
        refine Or.inr ⟨i', j', a, b, h1, h2, by rw [qi_up_ne _ _ ni, qi_up_ne _ _ nj]; exact h3, by rw [qi_up_ne _ _ ni]; exact h4, by rw [qi_up_ne _ _ ni, qi_up_ne _ _ nj]; exact h5, by rw [qi_up_ne _ _ ni]; exact h6, fun t ht => ?_⟩
        unfold qi_fl
        rw [if_neg (by omega), if_neg (by omega), if_neg (by omega), if_neg (by omega), qi_up_ne _ _ ni]
        exact h7 t ht
  · by_cases q : e = c <;> by_cases q' : f = c
    · rw [q, q']
      exact ⟨fun _ => rfl, fun _ => rfl⟩
    · rw [q, qi_up_at, qi_up_at, qi_up_ne _ _ q', qi_up_ne _ _ q']
      exact ⟨fun e => absurd e.symm (ui f hf q'), fun e => absurd e.symm (uj f hf)⟩
    · rw [q', qi_up_at, qi_up_at, qi_up_ne _ _ q, qi_up_ne _ _ q]
      exact ⟨fun e' => absurd e' (ui e he q), fun e' => absurd e' (uj e he)⟩
    · rw [qi_up_ne _ _ q, qi_up_ne _ _ q, qi_up_ne _ _ q', qi_up_ne _ _ q']
      exact h.2 e f he hf
/-- one cell set in both -/
theorem qi_set (h : qi_cols rX rM lX lM sX sM aX aM dX dM) {c i j t : Nat} (hc : c < 10) (hi : rX c = nI i) (hj : rM c = nI j) (hi10 : i < 10) (hj11 : j < 11) (ht : t < 16) {a : Int64} {d : UInt64} (ho : qi_co (lX i) a d) :
    qi_cols rX rM lX lM sX sM (qi_up aX (i * 16 + t) a) (qi_up aM (j * 16 + t) a) (qi_up dX (i * 16 + t) d) (qi_up dM (j * 16 + t) d) := by
  refine ⟨fun e he => ?_, h.2⟩
  rcases h.1 e he with h1 | ⟨i', j', a', b', h1, h2, h3, h4, h5, h6, h7⟩
  · exact Or.inl h1
  · have ij : i' = i ↔ j' = j := by
      have h8 := h.2 e c he hc
      rw [a', b', hi, hj, qi_nI_inj' (by omega) (by omega), qi_nI_inj' (by omega) (by omega)] at h8
      exact h8
    refine Or.inr ⟨i', j', a', b', h1, h2, h3, h4, h5, h6, fun t' ht' => ?_⟩
    by_cases q : i' = i ∧ t' = t
    · obtain ⟨q1, q2⟩ := q
      have q3 := ij.mp q1
      subst q1 q2 q3
      rw [qi_up_at, qi_up_at, qi_up_at, qi_up_at]
      exact ⟨rfl, rfl, ho⟩
    · have n1 : i' * 16 + t' ≠ i * 16 + t := by
        intro z
        exact q ⟨by omega, by omega⟩
      have n2 : j' * 16 + t' ≠ j * 16 + t := by
        intro z
        have z1 : j' = j := by omega
        exact q ⟨ij.mpr z1, by omega⟩
      rw [qi_up_ne _ _ n1, qi_up_ne _ _ n2, qi_up_ne _ _ n1, qi_up_ne _ _ n2]
      exact h7 t' ht'
end
