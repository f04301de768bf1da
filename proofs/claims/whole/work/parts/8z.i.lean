/-! all as it was -/
section
variable {w : qcW} {I : qTI} {R : qTR}
theorem qi_rr_rr {α : Type} (f : Nat → Nat → α) (a : Nat) (g h : Nat → α) : qi_rr (qi_rr f a g) a h = qi_rr f a h := by
  funext b
  unfold qi_rr
  split <;> rfl
theorem mx_back : ∀ (m N : Nat) (L : qTL) (D : qTD), m < N → m ≤ 16 → (∀ j, j < m → qc_inb (I 330 j) 176 = true) → fX12_takesBack_l7 w N (I, L, D, R, nI m - 1) = some ((), I, qi_rr L 295 (qx_un m (I 330) (L 331) (L 295)), qi_rr D 296 (qx_un m (I 330) (D 332) (D 296)), R)
  | 0, 0, L, D, h1, _, _ => by omega
  | 0, N + 1, L, D, h1, h2, h3 => by
    rw [fX12_takesBack_l7_s]
    unfold fX12_takesBack_b7
    rw [if_pos (show nI 0 - 1 < 0 by decide)]
    show _ = some ((), I, qi_rr L 295 (L 295), qi_rr D 296 (D 296), R)
    rw [qi_rr_0, qi_rr_0]
  | m + 1, 0, L, D, h1, _, _ => by omega
  | m + 1, N + 1, L, D, h1, h2, h3 => by
    rw [fX12_takesBack_l7_s, qi_d1]
    unfold fX12_takesBack_b7
    have hlt : ¬ nI m < 0 := fun z => by have := (qi_lt (b := 0) (by omega) (by decide)).mp z; omega
    rw [if_neg hlt, qi_inbN (show m < 16 by omega) (by decide), qc_gdt, qc_gdt, nI_clamp (by omega), h3 m (by omega), qc_gdt, qc_gdt, qc_gdt, qc_gdt, ← Int32.sub_eq_add_neg, mx_back m N _ _ (by omega) (by omega) (fun j hj => h3 j (by omega))]
    rw [qi_rr2 L 295, qi_rr2 D 296, qi_rr_on, qi_rr_on, qi_rr_rr, qi_rr_rr, qi_rr_off _ _ (show 331 ≠ 295 by decide), qi_rr_off _ _ (show 332 ≠ 296 by decide)]
    rfl
theorem mx_takesBack {L : qTL} {D : qTD} {m : Nat} (hm : m ≤ 16) (h73 : I 291 73 = nI m) (h330 : ∀ j, j < m → qc_inb (I 330 j) 176 = true) : fX12_takesBack w I L D R = some ((), I, qi_rr L 295 (qx_un m (I 330) (L 331) (L 295)), qi_rr D 296 (qx_un m (I 330) (D 332) (D 296)), R) := by
  unfold fX12_takesBack
  rw [h73]
  exact mx_back m qcF L D (by have := qy_F; omega) hm h330
end
section
variable {w : qcW} {I : qTI} {L : qTL} {D : qTD} {R : qTR}
theorem qx_cp_off {α : Type} (f : Nat → Nat → α) {a c b : Nat} (sp dp n : Nat) (h : b ≠ c) : qj_cp f a c sp dp n b = f b := if_neg h
theorem qx_cp_on {α : Type} (f : Nat → Nat → α) (a c sp dp n : Nat) : qj_cp f a c sp dp n c = va_cpy (f a) (f c) sp dp n := if_pos rfl
theorem qx_cok1 {i : Nat} (h : i < 10) : qj_cok 0 (nI i * 16) 16 16 160 = true := by
  rcases (show i = 0 ∨ i = 1 ∨ i = 2 ∨ i = 3 ∨ i = 4 ∨ i = 5 ∨ i = 6 ∨ i = 7 ∨ i = 8 ∨ i = 9 by omega) with rfl | rfl | rfl | rfl | rfl | rfl | rfl | rfl | rfl | rfl <;> decide
theorem qx_cok2 {i : Nat} (h : i < 10) : qj_cok (nI i * 16) 0 16 160 16 = true := by
  rcases (show i = 0 ∨ i = 1 ∨ i = 2 ∨ i = 3 ∨ i = 4 ∨ i = 5 ∨ i = 6 ∨ i = 7 ∨ i = 8 ∨ i = 9 by omega) with rfl | rfl | rfl | rfl | rfl | rfl | rfl | rfl | rfl | rfl <;> decide
theorem qx_c16 {i : Nat} (h : i < 10) : Int32.toNatClampNeg (nI i * 16) = i * 16 := by
  rw [show (16 : Int32) = nI 16 by decide, qi_mul, nI_clamp (by omega)]
theorem cx_giveBack {L0 : Nat → Int64} {D0 : Nat → UInt64} {rc : Int32} (h7 : I 257 7 = rc) (hrc : rc = -1 ∨ ∃ i, i < 10 ∧ rc = nI i) (hk : ∀ i t : Nat, rc = nI i → i < 10 → t < 16 → L 263 t = L0 (i * 16 + t) ∧ D 264 t = D0 (i * 16 + t)) (ho : ∀ k, (∀ i t : Nat, rc = nI i → i < 10 → t < 16 → k ≠ i * 16 + t) → L 261 k = L0 k ∧ D 262 k = D0 k) :
    ∃ (L' : qTL) (D' : qTD), fX1_giveBack w I L D R = some ((), I, L', D', R) ∧ L' 261 = L0 ∧ D' 262 = D0 ∧ (∀ a, a ≠ 261 → L' a = L a) ∧ (∀ a, a ≠ 262 → D' a = D a) := by
  unfold fX1_giveBack
  rw [h7]
  rcases hrc with h | ⟨i, h1, h2⟩
  · rw [if_pos h]
    have hno : ∀ (k i t : Nat), rc = nI i → i < 10 → t < 16 → k ≠ i * 16 + t := fun k i t z z1 => absurd (z.symm.trans h) (qi_nI_m1 (by omega))
    exact ⟨L, D, rfl, funext fun k => (ho k (hno k)).1, funext fun k => (ho k (hno k)).2, fun _ _ => rfl, fun _ _ => rfl⟩
  · have hm : ¬ rc = -1 := by rw [h2]; exact qi_nI_m1 (by omega)
    rw [if_neg hm, h2, qx_cok1 h1, qc_gdt, qc_gdt, qx_c16 h1]
    have hno : ∀ k, ¬ (i * 16 ≤ k ∧ k < i * 16 + 16) → ∀ (i' t : Nat), rc = nI i' → i' < 10 → t < 16 → k ≠ i' * 16 + t := fun k hk i' t z z1 z2 z3 => by
      have : i' = i := qi_nI_inj (by omega) (by omega) (z.symm.trans h2)
      subst this
      exact hk ⟨by omega, by omega⟩
    refine ⟨_, _, rfl, ?_, ?_, fun a h => qx_cp_off _ _ _ _ h, fun a h => qx_cp_off _ _ _ _ h⟩
    · rw [qx_cp_on]
      funext k
      show (if i * 16 ≤ k ∧ k < i * 16 + 16 then L 263 (0 + (k - i * 16)) else L 261 k) = L0 k
      split
      · rename_i z
        rw [Nat.zero_add, (hk i (k - i * 16) h2 h1 (by omega)).1]
        congr 1
        omega
      · rename_i z
        exact (ho k (hno k z)).1
    · rw [qx_cp_on]
      funext k
      show (if i * 16 ≤ k ∧ k < i * 16 + 16 then D 264 (0 + (k - i * 16)) else D 262 k) = D0 k
      split
      · rename_i z
        rw [Nat.zero_add, (hk i (k - i * 16) h2 h1 (by omega)).2]
        congr 1
        omega
      · rename_i z
        exact (ho k (hno k z)).2
/-- the row of a column that is kept -/
def qx_rc (I : qTI) (c : Int32) : Int32 := if qc_inb c 10 = true then I 258 c.toNatClampNeg else -1
theorem cx_keep {c : Int32} (hcol : ∀ k, k < 10 → I 258 k = -1 ∨ ∃ i, i < 10 ∧ I 258 k = nI i) : (qx_rc I c = -1 ∨ ∃ i, i < 10 ∧ qx_rc I c = nI i) ∧
    ∃ (L' : qTL) (D' : qTD), fX1_keep w I L D R c = some ((), qc_u I 257 7 (qx_rc I c), L', D', R) ∧ (∀ a, a ≠ 263 → L' a = L a) ∧ (∀ a, a ≠ 264 → D' a = D a) ∧ ∀ i t : Nat, qx_rc I c = nI i → i < 10 → t < 16 → L' 263 t = L 261 (i * 16 + t) ∧ D' 264 t = D 262 (i * 16 + t) := by
  have hrc : qx_rc I c = -1 ∨ ∃ i, i < 10 ∧ qx_rc I c = nI i := by
    unfold qx_rc
    split
    · rename_i h
      obtain ⟨k, k1, k2, k3⟩ := qi_k h (by decide)
      rw [k3]
      exact hcol k k1
    · exact Or.inl rfl
  refine ⟨hrc, ?_⟩
  have e : fX1_keep w I L D R c = fX1_keep_b18 w I L D R (qx_rc I c) := by
    unfold fX1_keep qx_rc
    rw [fx_isColumn, qc_bds]
    cases h : qc_inb c 10
    · rw [if_neg (by decide), if_neg (by decide)]
    · rw [if_pos rfl, if_pos rfl, qc_gdt]
  rw [e]
  unfold fX1_keep_b18
  rw [qc_u_at]
  rcases hrc with h | ⟨i, h1, h2⟩
  · rw [if_pos h]
    exact ⟨L, D, rfl, fun _ _ => rfl, fun _ _ => rfl, fun i t z z1 => absurd (z.symm.trans h) (qi_nI_m1 (by omega))⟩
  · rw [h2, if_neg (qi_nI_m1 (by omega)), qx_cok2 h1, qc_gdt, qc_gdt, qx_c16 h1]
    refine ⟨_, _, rfl, fun a h => qx_cp_off _ _ _ _ h, fun a h => qx_cp_off _ _ _ _ h, fun i' t z z1 z2 => ?_⟩
    have : i' = i := qi_nI_inj (by omega) (by omega) z.symm
    subst this
    rw [qx_cp_on, qx_cp_on]
    constructor
    · show (if 0 ≤ t ∧ t < 0 + 16 then L 261 (i' * 16 + (t - 0)) else L 263 t) = _
      rw [if_pos (by omega), Nat.sub_zero]
    · show (if 0 ≤ t ∧ t < 0 + 16 then D 262 (i' * 16 + (t - 0)) else D 264 t) = _
      rw [if_pos (by omega), Nat.sub_zero]
end
