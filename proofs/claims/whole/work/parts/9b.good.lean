/-! tokens: where they lie -/
def qt_B (b : Nat → Nat) (len : Nat) : Prop := len ≤ 400 ∧ (∀ p, p < len → b p < 256) ∧ ∀ p, len ≤ p → b p = 256
theorem qt_run_le (f : Nat → Bool) (b : Nat → Nat) : ∀ n p, p ≤ qt_run f b n p
  | 0, p => Nat.le_refl _
  | n + 1, p => by
    unfold qt_run
    split
    · have := qt_run_le f b n (p + 1); omega
    · exact Nat.le_refl _
theorem qt_run_in (f : Nat → Bool) (b : Nat → Nat) : ∀ n p i, p ≤ i → i < qt_run f b n p → f (b i) = true
  | 0, p, i, h1, h2 => by unfold qt_run at h2; omega
  | n + 1, p, i, h1, h2 => by
    unfold qt_run at h2
    split at h2
    · rename_i h
      by_cases e : i = p
      · rw [e]; exact h
      · exact qt_run_in f b n (p + 1) i (by omega) h2
    · omega
theorem qt_run_end (f : Nat → Bool) {b : Nat → Nat} {len : Nat} (hB : qt_B b len) (hf : f 256 = false) : ∀ n p, len ≤ p + n → f (b (qt_run f b n p)) = false
  | 0, p, h => by unfold qt_run; rw [hB.2.2 p (by omega)]; exact hf
  | n + 1, p, h => by
    unfold qt_run
    split
    · exact qt_run_end f hB hf n (p + 1) (by omega)
    · rename_i h2; exact Bool.eq_false_iff.mpr h2
theorem qt_run_max (f : Nat → Bool) {b : Nat → Nat} {len : Nat} (hB : qt_B b len) (hf : f 256 = false) (n p : Nat) (hp : p ≤ len) : qt_run f b n p ≤ len := by
  by_cases h : qt_run f b n p ≤ len
  · exact h
  · have := qt_run_in f b n p len hp (by omega)
    rw [hB.2.2 len (Nat.le_refl _), hf] at this
    cases this
section
variable {b : Nat → Nat} {len : Nat}
theorem qt_from_le (p : Nat) : p ≤ qt_from b p := qt_run_le _ _ _ _
theorem qt_from_max (hB : qt_B b len) {p : Nat} (hp : p ≤ len) : qt_from b p ≤ len := qt_run_max _ hB rfl _ _ hp
theorem qt_lt (hB : qt_B b len) {p : Nat} (h : b p ≠ 256) : p < len := by
  by_cases z : p < len
  · exact z
  · exact absurd (hB.2.2 p (by omega)) h
theorem qt_fi_lt (hB : qt_B b len) {p : Nat} (h : qt_fi (b p) = true) : p < len := qt_lt hB (fun z => by rw [z] at h; cases h)
theorem qt_le_lt (hB : qt_B b len) {p : Nat} (h : qt_le (b p) = true) : p < len := qt_lt hB (fun z => by rw [z] at h; cases h)
theorem qt_run_1 (f : Nat → Bool) (b : Nat → Nat) (n p : Nat) (h : f (b p) = true) : p + 1 ≤ qt_run f b (n + 1) p := by
  unfold qt_run
  rw [if_pos h]
  exact qt_run_le _ _ _ _
/-- a sign lies within the text -/
theorem qt_sg_len (hB : qt_B b len) {p : Nat} (hp : p < len) : 1 ≤ (qt_sg (b p) (b (p + 1)) (b (p + 2))).2 ∧ p + (qt_sg (b p) (b (p + 1)) (b (p + 2))).2 ≤ len := by
  have l1 : b (p + 1) = 61 ∨ b (p + 1) = 60 ∨ b (p + 1) = 62 → p + 1 < len := fun h => qt_lt hB (by omega)
  have l2 : b (p + 2) = 62 → p + 2 < len := fun h => qt_lt hB (by omega)
  generalize b p = c
  generalize b (p + 1) = d at l1
  generalize b (p + 2) = e at l2
  unfold qt_sg
  repeat' split
  all_goals (simp only []; omega)
theorem qt_lk (lo hi dv : Nat) (hd : lo ≤ dv ∧ dv ≤ hi) : ∀ l : List (Nat × Nat), (∀ q ∈ l, lo ≤ q.2 ∧ q.2 ≤ hi) → ∀ v : Nat, lo ≤ (l.lookup v).getD dv ∧ (l.lookup v).getD dv ≤ hi := by
  intro l
  induction l with
  | nil => intro _ v; exact hd
  | cons q l ih =>
    intro h v
    obtain ⟨k, m⟩ := q
    rw [List.lookup_cons]
    split
    · exact h (k, m) List.mem_cons_self
    · exact ih (fun q hq => h q (List.mem_cons_of_mem _ hq)) v
theorem qt_wm_0 (v : Nat) : qt_wm v ≠ 0 ∧ qt_wm v ≠ 63 ∧ 4 ≤ qt_wm v ∧ qt_wm v ≤ 35 := by
  have := qt_lk 4 35 4 (by decide) qt_wL (by decide) v
  unfold qt_wm
  omega
theorem qt_sg_m (c d e : Nat) : (qt_sg c d e).1 ≠ 0 ∧ 36 ≤ (qt_sg c d e).1 := by
  have h1 := qt_lk 36 63 63 (by decide) qt_sL (by decide) c
  unfold qt_sg
  repeat' split
  all_goals (simp only []; omega)
theorem qt_pos (hB : qt_B b len) {p : Nat} (hp : p ≤ len) : p ≤ qt_from b p ∧ qt_from b p ≤ len ∧ (qt_m b p ≠ 63 → qt_from b p ≤ qt_to b p ∧ qt_to b p ≤ len) ∧ (qt_m b p ≠ 63 → qt_m b p ≠ 0 → qt_from b p < qt_to b p) := by
  have h1 := qt_from_le (b := b) p
  have h2 := qt_from_max hB hp
  refine ⟨h1, h2, ?_⟩
  unfold qt_m qt_to
  generalize qt_from b p = s at h1 h2
  by_cases c1 : b s = 256
  · simp only [if_pos c1]
    exact ⟨fun _ => ⟨Nat.le_refl _, h2⟩, fun _ h => absurd rfl h⟩
  have hs := qt_lt hB c1
  simp only [if_neg c1]
  by_cases c2 : qt_le (b s) = true
  · simp only [if_pos c2]
    have a1 : s + 1 ≤ qt_le_end b s := qt_run_1 qt_le b 400 s c2
    have a2 : qt_le_end b s ≤ len := qt_run_max qt_le hB rfl 401 s h2
    exact ⟨fun _ => ⟨by omega, a2⟩, fun _ _ => by omega⟩
  simp only [if_neg c2]
  by_cases c3 : qt_fi (b s) = true
  · simp only [if_pos c3]
    have a1 : s + 1 ≤ qt_f1 b s := qt_run_1 qt_fi b 400 s c3
    have a2 : qt_f1 b s ≤ len := qt_run_max qt_fi hB rfl 401 s h2
    by_cases c4 : qt_isR b s = true
    · simp only [if_pos c4]
      have c5 : qt_fi (b (qt_f1 b s + 1)) = true := (Bool.and_eq_true_iff.mp c4).2
      have a3 := qt_fi_lt hB c5
      have a4 : qt_f1 b s + 1 ≤ qt_f2 b s := qt_run_le qt_fi b 401 _
      have a5 : qt_f2 b s ≤ len := qt_run_max qt_fi hB rfl 401 _ (by omega)
      exact ⟨fun _ => ⟨by omega, a5⟩, fun _ _ => by omega⟩
    · simp only [if_neg c4]
      exact ⟨fun _ => ⟨by omega, a2⟩, fun _ _ => by omega⟩
  simp only [if_neg c3]
  by_cases c4 : b s = 36
  · simp only [if_pos c4]
    by_cases c5 : qt_fi (b (s + 1)) = true
    · have := qt_fi_lt hB c5
      exact ⟨fun _ => ⟨by omega, by omega⟩, fun _ _ => by omega⟩
    · simp only [if_neg c5]
      exact ⟨fun h => absurd rfl h, fun h => absurd rfl h⟩
  · simp only [if_neg c4]
    have := qt_sg_len hB hs
    exact ⟨fun _ => ⟨by omega, by omega⟩, fun _ _ => by omega⟩
/-- a real has three bytes at least, and no figure behind it -/
theorem qt_real (hB : qt_B b len) {p : Nat} (hp : p ≤ len) (h : qt_m b p = 2) : qt_fi (b (qt_from b p)) = true ∧ qt_from b p + 3 ≤ qt_to b p ∧ qt_fi (b (qt_to b p)) = false ∧ qt_isR b (qt_from b p) = true := by
  have h2 := qt_from_max hB hp
  unfold qt_m at h
  unfold qt_to
  generalize qt_from b p = s at h2 h
  by_cases c1 : b s = 256
  · rw [if_pos c1] at h; omega
  rw [if_neg c1] at h ⊢
  by_cases c2 : qt_le (b s) = true
  · rw [if_pos c2] at h
    have := (qt_wm_0 (qt_w b s)).2.2.1
    omega
  rw [if_neg c2] at h ⊢
  by_cases c3 : qt_fi (b s) = true
  · rw [if_pos c3] at h ⊢
    have a1 : s + 1 ≤ qt_f1 b s := qt_run_1 qt_fi b 400 s c3
    by_cases c4 : qt_isR b s = true
    · rw [if_pos c4]
      have c5 : qt_fi (b (qt_f1 b s + 1)) = true := (Bool.and_eq_true_iff.mp c4).2
      have a4 : qt_f1 b s + 1 + 1 ≤ qt_f2 b s := qt_run_1 qt_fi b 400 _ c5
      exact ⟨c3, by omega, qt_run_end qt_fi hB rfl 401 _ (by have := hB.1; omega), c4⟩
    · rw [if_neg c4] at h
      split at h <;> omega
  · rw [if_neg c3] at h
    split at h
    · split at h <;> omega
    · have := (qt_sg_m (b s) (b (s + 1)) (b (s + 2))).2
      omega
/-- how many reals there can be -/
def qs_J (b : Nat → Nat) (st : qP) : Prop := 4 * st.2.length ≤ st.1 + 1 ∧ (qt_fi (b st.1) = true → 4 * st.2.length ≤ st.1)
theorem qs_J_adv (hB : qt_B b len) {st : qP} (hp : st.1 ≤ len) (hJ : qs_J b st) (h0 : qt_m b st.1 ≠ 0) (h3 : qt_m b st.1 ≠ 63) : qs_J b (qt_to b st.1, st.2) := by
  obtain ⟨a1, a2, a3, a4⟩ := qt_pos hB hp
  have := a4 h3 h0
  exact ⟨by have := hJ.1; show 4 * st.2.length ≤ qt_to b st.1 + 1; omega, fun _ => by have := hJ.1; show 4 * st.2.length ≤ qt_to b st.1; omega⟩
theorem qs_J_real (hB : qt_B b len) {st : qP} (hp : st.1 ≤ len) (hJ : qs_J b st) (h : qt_m b st.1 = 2) (r : UInt64) : qs_J b (qt_to b st.1, st.2 ++ [r]) ∧ 4 * st.2.length ≤ qt_from b st.1 := by
  obtain ⟨c1, c2, c3, -⟩ := qt_real hB hp h
  have a1 := qt_from_le (b := b) st.1
  have key : 4 * st.2.length ≤ qt_from b st.1 := by
    by_cases e : qt_from b st.1 = st.1
    · rw [e] at c1 ⊢
      exact hJ.2 c1
    · have := hJ.1; omega
  refine ⟨⟨?_, fun z => ?_⟩, key⟩
  · show 4 * (st.2 ++ [r]).length ≤ qt_to b st.1 + 1
    rw [List.length_append]
    show 4 * (st.2.length + 1) ≤ _
    omega
  · rw [show b (qt_to b st.1, st.2 ++ [r]).1 = b (qt_to b st.1) from rfl, c3] at z
    cases z
end
