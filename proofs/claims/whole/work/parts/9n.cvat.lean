/-! a conversion put behind the left side, by the class -/
section
variable {w : qcW} {I : qTI} {L : qTL} {D : qTD} {R : qTR} {c : Nat}
def qm_go (at_ n j : Nat) (f g : Nat → Int32) : Nat → Int32 := fun k => if j ≤ k ∧ k ≤ n ∧ (1800 ≤ f k ∧ f k ≤ 1802) ∧ nI at_ < g k then g k + 1 else g k
theorem cx_goals (hW : qc_WF w) (hR : qc_FR R) (hc : c = 270 ∨ c = 273 ∨ c = 276) {n at_ : Nat} (hn : n < 200) : ∀ (m N j : Nat) (I : qTI), j + m = n + 1 → m < N → I c 2 = nI n → fX0_moveGoals_l2 w N (I, L, D, R, c, nI at_, nI j) = some ((), qi_rr I (c + 2) (qm_go at_ n j (I (c + 1)) (I (c + 2))), L, D, R)
  | m, 0, j, I, _, h, _ => by omega
  | 0, N + 1, j, I, hj, _, h2 => by
    obtain ⟨w1, w2, w3, w4, w5, s1, s2, s3⟩ := qc_WF_io hW hc
    rw [fX0_moveGoals_l2_s]
    unfold fX0_moveGoals_b2
    rw [w1, qc_gdt, h2, if_pos ((qi_lt (by omega) (by omega)).mpr (by omega))]
    have : qm_go at_ n j (I (c + 1)) (I (c + 2)) = I (c + 2) := funext fun k => if_neg (by omega)
    rw [this, qi_rr_0]
  | m + 1, N + 1, j, I, hj, hN, h2 => by
    obtain ⟨w1, w2, w3, w4, w5, s1, s2, s3⟩ := qc_WF_io hW hc
    obtain ⟨r0, r1⟩ := qfr_c hR hc
    rw [fX0_moveGoals_l2_s]
    unfold fX0_moveGoals_b2 fX0_moveGoals_b54
    rw [w1, qc_gdt, h2, if_neg (fun z => by have := (qi_lt (by omega) (by omega)).mp z; omega), r0, r1, w2, w3, w4, w5, s3, qi_inbN (show j < 200 by omega) (by decide), nI_clamp (by omega)]
    simp only [qc_gdt]
    rw [qi_s1]
    have step : ∀ J : qTI, J c 2 = nI n → J (c + 1) = I (c + 1) → (∀ x, x ≠ c + 2 → J x = I x) → qm_go at_ n (j + 1) (I (c + 1)) (J (c + 2)) = qm_go at_ n j (I (c + 1)) (I (c + 2)) → fX0_moveGoals_l2 w N (J, L, D, R, c, nI at_, nI (j + 1)) = some ((), qi_rr I (c + 2) (qm_go at_ n j (I (c + 1)) (I (c + 2))), L, D, R) := by
      intro J j2 j1 jx jm
      rw [cx_goals hW hR hc hn m N (j + 1) J (by omega) (by omega) j2, j1, jm]
      have : qi_rr J (c + 2) (qm_go at_ n j (I (c + 1)) (I (c + 2))) = qi_rr I (c + 2) (qm_go at_ n j (I (c + 1)) (I (c + 2))) := by
        funext x
        by_cases hx : x = c + 2
        · rw [hx, qi_rr_on, qi_rr_on]
        · rw [qi_rr_off _ _ hx, qi_rr_off _ _ hx, jx x hx]
      rw [this]
    have same : ¬ ((1800 ≤ I (c + 1) j ∧ I (c + 1) j ≤ 1802) ∧ nI at_ < I (c + 2) j) → fX0_moveGoals_l2 w N (I, L, D, R, c, nI at_, nI (j + 1)) = some ((), qi_rr I (c + 2) (qm_go at_ n j (I (c + 1)) (I (c + 2))), L, D, R) := fun hh => step I h2 rfl (fun _ _ => rfl) (by
      funext k
      unfold qm_go
      by_cases z : k = j
      · subst z
        rw [if_neg (by omega), if_neg (fun y => hh y.2.2)]
      · by_cases y : j ≤ k ∧ k ≤ n ∧ (1800 ≤ I (c + 1) k ∧ I (c + 1) k ≤ 1802) ∧ nI at_ < I (c + 2) k
        · rw [if_pos y, if_pos ⟨by omega, y.2⟩]
        · rw [if_neg y, if_neg (fun x => y ⟨by omega, x.2⟩)])
    by_cases c1 : I (c + 1) j < 1800
    · rw [if_pos c1]
      exact same (fun z => absurd c1 (Int32.not_lt.mpr z.1.1))
    rw [if_neg c1]
    by_cases c2 : 1802 < I (c + 1) j
    · rw [if_pos c2]
      exact same (fun z => absurd c2 (Int32.not_lt.mpr z.1.2))
    rw [if_neg c2]
    by_cases c3 : I (c + 2) j ≤ nI at_
    · rw [if_pos c3]
      exact same (fun z => absurd z.2 (Int32.not_lt.mpr c3))
    rw [if_neg c3]
    refine step _ ((qc_u_ne _ _ (Or.inl (by omega))).trans h2) (qc_u_off _ _ (by omega)) (fun x hx => qc_u_off _ _ hx) ?_
    funext k
    rw [qi_u_on]
    unfold qm_go
    by_cases z : k = j
    · subst z
      rw [if_neg (by omega), qi_up_at, if_pos ⟨Nat.le_refl _, by omega, ⟨Int32.not_lt.mp c1, Int32.not_lt.mp c2⟩, Int32.not_le.mp c3⟩]
    · rw [qi_up_ne _ _ z]
      by_cases y : j ≤ k ∧ k ≤ n ∧ (1800 ≤ I (c + 1) k ∧ I (c + 1) k ≤ 1802) ∧ nI at_ < I (c + 2) k
      · rw [if_pos y, if_pos ⟨by omega, y.2⟩]
      · rw [if_neg y, if_neg (fun x => y ⟨by omega, x.2⟩)]
/-- one place on, from i to n -/
def qm_sf (i n : Nat) (f : Nat → Int32) : Nat → Int32 := fun k => if i < k ∧ k ≤ n then f (k - 1) else f k
theorem qm_sf_n (n : Nat) (f : Nat → Int32) : qm_sf n n f = f := funext fun k => if_neg (by omega)
theorem qm_sf_s {i n : Nat} (hi : 0 < i) (hn : i ≤ n) (f : Nat → Int32) : qi_up (qm_sf i n f) i (qm_sf i n f (i - 1)) = qm_sf (i - 1) n f := by
  funext k
  unfold qm_sf
  by_cases z : k = i
  · subst z
    rw [qi_up_at, if_neg (by omega), if_pos (by omega)]
  · rw [qi_up_ne _ _ z]
    by_cases y : i < k ∧ k ≤ n
    · rw [if_pos y, if_pos (by omega)]
    · rw [if_neg y, if_neg (by omega)]
theorem cx_shift (hW : qc_WF w) (hR : qc_FR R) (hc : c = 270 ∨ c = 273 ∨ c = 276) {n at_ : Nat} (hn : n < 200) (x2 x3 : Int32) : ∀ (m N i : Nat) (I0 I : qTI), i = at_ + m → i ≤ n → m < N → I0 c 2 = nI n → (∀ x, x ≠ c + 1 → x ≠ c + 2 → I x = I0 x) → I (c + 1) = qm_sf i n (I0 (c + 1)) → I (c + 2) = qm_sf i n (I0 (c + 2)) →
    ∃ I' : qTI, fX0_convertAt_l22 w N (I, L, D, R, c, nI at_, x2, x3, nI i) = some ((), I', L, D, R) ∧ (∀ x, x ≠ c → x ≠ c + 1 → x ≠ c + 2 → I' x = I0 x) ∧ I' c 2 = nI (n + 1) ∧ (∀ k, k ≠ 2 → I' c k = I0 c k) ∧ I' (c + 1) = qi_up (qm_sf at_ n (I0 (c + 1))) at_ (1600 + 10 * x2 + x3) ∧ I' (c + 2) = qm_go at_ n 0 (qi_up (qm_sf at_ n (I0 (c + 1))) at_ (1600 + 10 * x2 + x3)) (qi_up (qm_sf at_ n (I0 (c + 2))) at_ 0)
  | m, 0, i, I0, I, _, _, h, _, _, _, _ => by omega
  | 0, N + 1, i, I0, I, hi, hin, _, h2, hx, h1, h1' => by
    obtain ⟨w1, w2, w3, w4, w5, s1, s2, s3⟩ := qc_WF_io hW hc
    obtain ⟨r0, r1⟩ := qfr_c hR hc
    have hi : i = at_ := by omega
    subst hi
    have i2 : I c 2 = nI n := by rw [hx c (by omega) (by omega), h2]
    rw [fX0_convertAt_l22_s]
    unfold fX0_convertAt_b22
    rw [w1, qc_gdt, if_pos (Int32.le_refl _), r0, w2, w3, s2, qi_inbN (show i < 200 by omega) (by decide), nI_clamp (by omega)]
    simp only [qc_gdt]
    unfold fX0_conversion
    rw [qc_bds]
    simp only [r1, w4, w5, s3, qi_inbN (show i < 200 by omega) (show 200 < 2 ^ 31 by decide), qc_gdt]
    unfold fX0_moveGoals
    rw [w1, qc_gdt]
    have e := cx_goals (w := w) (L := L) (D := D) (R := R) (at_ := i) hW hR hc hn (n + 1) qcF 0 (qc_u (qc_u I (c + 1) i (1600 + 10 * x2 + x3)) (c + 2) i 0) (by omega) (by unfold qcF; omega) (by rw [qc_u_ne _ _ (Or.inl (by omega)), qc_u_ne _ _ (Or.inl (by omega)), i2])
    have e : fX0_moveGoals_l2 w qcF (qc_u (qc_u I (c + 1) i (1600 + 10 * x2 + x3)) (c + 2) i 0, L, D, R, c, nI i, 0) = _ := e
    rw [e, qc_bds]
    unfold fX0_convertAt_b89
    rw [w1, qc_gdt, s1, qc_gdt]
    have u1 : qc_u (qc_u I (c + 1) i (1600 + 10 * x2 + x3)) (c + 2) i 0 (c + 1) = qi_up (qm_sf i n (I0 (c + 1))) i (1600 + 10 * x2 + x3) := by rw [qc_u_off _ _ (by omega), qi_u_on, h1]
    have u2 : qc_u (qc_u I (c + 1) i (1600 + 10 * x2 + x3)) (c + 2) i 0 (c + 2) = qi_up (qm_sf i n (I0 (c + 2))) i 0 := by rw [qi_u_on, qc_u_off _ _ (by omega), h1']
    have u3 : ∀ x, x ≠ c + 1 → x ≠ c + 2 → qc_u (qc_u I (c + 1) i (1600 + 10 * x2 + x3)) (c + 2) i 0 x = I0 x := fun x x1 x2 => by rw [qc_u_off _ _ x2, qc_u_off _ _ x1, hx x x1 x2]
    rw [u1, u2]
    refine ⟨_, rfl, fun x y0 y1 y2 => ?_, ?_, fun k hk => ?_, ?_, ?_⟩
    · rw [qc_u_off _ _ y0, qi_rr_off _ _ y2, u3 x y1 y2]
    · rw [qc_u_at, qi_rr_off _ _ (by omega), u3 c (by omega) (by omega), h2, qi_s1]
    · rw [qc_u_ne _ _ (Or.inr hk), qi_rr_off _ _ (by omega), u3 c (by omega) (by omega)]
    · rw [qc_u_off _ _ (by omega), qi_rr_off _ _ (by omega), u1]
    · rw [qc_u_off _ _ (by omega), qi_rr_on]
  | m + 1, N + 1, i, I0, I, hi, hin, hN, h2, hx, h1, h1' => by
    obtain ⟨w1, w2, w3, w4, w5, s1, s2, s3⟩ := qc_WF_io hW hc
    obtain ⟨r0, r1⟩ := qfr_c hR hc
    rw [fX0_convertAt_l22_s]
    unfold fX0_convertAt_b22
    have em1 : nI i - 1 = nI (i - 1) := qi_sub (b := 1) (by omega)
    have em2 : nI i + -1 = nI (i - 1) := by rw [← em1, Int32.sub_eq_add_neg]
    rw [w1, qc_gdt, if_neg (fun z => by have := (qi_le (by omega) (by omega)).mp z; omega), r0, r1, w2, w3, w4, w5, s2, s3, em1, em2, qi_inbN (show i < 200 by omega) (by decide), qi_inbN (show i - 1 < 200 by omega) (by decide), nI_clamp (by omega), nI_clamp (by omega)]
    simp only [qc_gdt]
    refine cx_shift hW hR hc hn x2 x3 m N (i - 1) I0 _ (by omega) (by omega) (by omega) h2 (fun x y1 y2 => by rw [qc_u_off _ _ y2, qc_u_off _ _ y1, hx x y1 y2]) ?_ ?_
    · rw [qc_u_off _ _ (by omega), qi_u_on, h1, qm_sf_s (by omega) hin]
    · rw [qi_u_on, qc_u_off _ _ (by omega), h1', qm_sf_s (by omega) hin]
end
