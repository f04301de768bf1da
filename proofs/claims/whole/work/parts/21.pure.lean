/-! counting: a row is free; bytes laid behind each other -/
theorem qc_pigeon : ∀ (n m : Nat) (f : Nat → Nat), (∀ i, i < n → f i < m) → (∀ i j, i < n → j < n → f i = f j → i = j) → n ≤ m
  | 0, m, _, _, _ => Nat.zero_le m
  | n + 1, 0, f, h, _ => absurd (h 0 (by omega)) (Nat.not_lt_zero _)
  | n + 1, m + 1, f, h, hi => by
    have h1 := qc_pigeon n m (fun i => if f i = m then f n else f i) (fun i hlt => by
      show (if f i = m then f n else f i) < m
      by_cases e : f i = m
      · rw [if_pos e]
        have h2 := h n (by omega)
        have h3 : f n ≠ m := fun e2 => by have := hi i n (by omega) (by omega) (e.trans e2.symm); omega
        omega
      · rw [if_neg e]
        have := h i (by omega)
        omega) (fun i j hlt hj e => by
      have e : (if f i = m then f n else f i) = (if f j = m then f n else f j) := e
      by_cases e1 : f i = m <;> by_cases e2 : f j = m
      · exact hi i j (by omega) (by omega) (e1.trans e2.symm)
      · rw [if_pos e1, if_neg e2] at e
        have := hi n j (by omega) (by omega) e
        omega
      · rw [if_neg e1, if_pos e2] at e
        have := hi i n (by omega) (by omega) e
        omega
      · rw [if_neg e1, if_neg e2] at e
        exact hi i j (by omega) (by omega) e)
    omega
theorem qc_lsf_sp {p : Nat → Bool} : ∀ (f k : Nat), k ≤ qc_lsf p f k ∧ qc_lsf p f k ≤ k + f ∧ (∀ d, k ≤ d → d < qc_lsf p f k → p d = false) ∧ (qc_lsf p f k < k + f → p (qc_lsf p f k) = true)
  | 0, k => by
    unfold qc_lsf
    exact ⟨Nat.le_refl k, by omega, fun d h1 h2 => by omega, fun h => by omega⟩
  | f + 1, k => by
    unfold qc_lsf
    cases hp : p k with
    | true => exact ⟨Nat.le_refl k, by show k ≤ k + (f + 1); omega, fun d h1 h2 => by have h2 : d < k := h2; omega, fun _ => hp⟩
    | false =>
      obtain ⟨h1, h2, h3, h4⟩ := qc_lsf_sp (p := p) f (k + 1)
      refine ⟨by show k ≤ qc_lsf p f (k + 1); omega, by show qc_lsf p f (k + 1) ≤ k + (f + 1); omega, fun d h5 h6 => ?_, fun h => h4 (by have h : qc_lsf p f (k + 1) < k + (f + 1) := h; omega)⟩
      by_cases e : d = k
      · rw [e]; exact hp
      · exact h3 d (by omega) h6
theorem qc_ls_le (p : Nat → Bool) (n : Nat) : qc_ls p n ≤ n := by
  have h := (qc_lsf_sp (p := p) n 0).2.1
  unfold qc_ls
  omega
theorem qc_ls_lt {p : Nat → Bool} {n d : Nat} (h : d < qc_ls p n) : p d = false := (qc_lsf_sp (p := p) n 0).2.2.1 d (Nat.zero_le d) h
theorem qc_ls_at {p : Nat → Bool} {n : Nat} (h : qc_ls p n < n) : p (qc_ls p n) = true := (qc_lsf_sp (p := p) n 0).2.2.2 (by unfold qc_ls at h; omega)
/-- where a column is missing, a row is free -/
theorem qx_free {I : Nat → Nat → Int32} {a c0 : Nat} (hc : c0 < 10) (h0 : I a c0 = -1) : qx_fr I a 10 < 10 := by
  apply Nat.lt_of_not_le
  intro hge
  have hall : ∀ r, r < 10 → ∃ c, c < 10 ∧ I a c = nI r := by
    intro r hr
    have h1 : decide (10 ≤ qc_ls (qx_us I a (nI r)) 10) = false := qc_ls_lt (p := fun r => decide (10 ≤ qc_ls (qx_us I a (nI r)) 10)) (n := 10) (by unfold qx_fr at hge; omega)
    have h2 := of_decide_eq_false h1
    refine ⟨qc_ls (qx_us I a (nI r)) 10, by omega, ?_⟩
    exact of_decide_eq_true (qc_ls_at (p := qx_us I a (nI r)) (n := 10) (by omega))
  obtain ⟨f, hf⟩ := Classical.axiomOfChoice (fun r => (show ∃ c, r < 10 → c < 10 ∧ I a c = nI r from by
    by_cases hr : r < 10
    · obtain ⟨c, h⟩ := hall r hr
      exact ⟨c, fun _ => h⟩
    · exact ⟨0, fun h => absurd h hr⟩))
  have hne : ∀ r, r < 10 → f r ≠ c0 := by
    intro r hr e
    have h1 := (hf r hr).2
    rw [e, h0] at h1
    have h2 := congrArg Int32.toInt h1
    rw [nI_toInt (by omega)] at h2
    have h3 : (-1 : Int32).toInt = -1 := rfl
    omega
  have hin : ∀ i j, i < 10 → j < 10 → f i = f j → i = j := by
    intro i j hi hj e
    have h1 := (hf i hi).2
    have h2 := (hf j hj).2
    rw [e, h2] at h1
    exact ((nI_eq (by omega) (by omega)).mp h1).symm
  have := qc_pigeon 10 9 (fun r => if c0 < f r then f r - 1 else f r) (fun i hi => by
    show (if c0 < f i then f i - 1 else f i) < 9
    have h1 := (hf i hi).1
    have h2 := hne i hi
    split <;> omega) (fun i j hi hj e => by
    have e : (if c0 < f i then f i - 1 else f i) = (if c0 < f j then f j - 1 else f j) := e
    have h1 := hne i hi
    have h2 := hne j hj
    apply hin i j hi hj
    split at e <;> split at e <;> omega)
  omega
/-- m bytes g laid behind n, their number at lb lk -/
def qx_app (I : Nat → Nat → Int32) (a lb lk n m : Nat) (g : Nat → Int32) : Nat → Nat → Int32 := fun b j => if b = lb ∧ j = lk then nI (n + m) else if b = a ∧ n ≤ j ∧ j < n + m then g (j - n) else I b j
theorem qx_app_0 {I : Nat → Nat → Int32} {a lb lk n : Nat} {g : Nat → Int32} (h : I lb lk = nI n) : qx_app I a lb lk n 0 g = I := by
  funext b j
  unfold qx_app
  split
  · rename_i h1
    rw [h1.1, h1.2, h]
    rfl
  · rw [if_neg (by omega)]
theorem qx_app_s {I : Nat → Nat → Int32} {a lb lk n m : Nat} {g : Nat → Int32} (h : a ≠ lb) : qc_u (qc_u (qx_app I a lb lk n m g) a (n + m) (g m)) lb lk (nI (n + (m + 1))) = qx_app I a lb lk n (m + 1) g := by
  funext b j
  unfold qc_u qx_app
  by_cases h1 : b = lb
  · rw [if_pos h1]
    by_cases h2 : j = lk
    · rw [if_pos h2, if_pos ⟨h1, h2⟩]
    · rw [if_neg h2, if_neg (by omega), if_neg (by omega), if_neg (by omega), if_neg (by omega), if_neg (by omega)]
  · rw [if_neg h1]
    by_cases h3 : b = a
    · have hb : ¬ (b = lb ∧ j = lk) := fun q => h1 q.1
      rw [if_pos h3]
      by_cases h4 : j = n + m
      · rw [if_pos h4, if_neg hb, if_pos ⟨h3, by omega, by omega⟩, h4, show n + m - n = m by omega]
      · rw [if_neg h4, if_neg hb, if_neg hb]
        by_cases h5 : n ≤ j ∧ j < n + m
        · rw [if_pos ⟨h3, h5.1, h5.2⟩, if_pos ⟨h3, h5.1, by omega⟩]
        · rw [if_neg (fun q => h5 q.2), if_neg (fun q => h5 ⟨q.2.1, by omega⟩)]
    · rw [if_neg h3, if_neg (by omega), if_neg (by omega), if_neg (by omega), if_neg (by omega)]
theorem qx_app_len {I : Nat → Nat → Int32} {a lb lk n m : Nat} {g : Nat → Int32} : qx_app I a lb lk n m g lb lk = nI (n + m) := by unfold qx_app; rw [if_pos ⟨rfl, rfl⟩]
