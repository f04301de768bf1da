/-! the class's code objects -/
/-- what the world knows of the three code objects -/
def qc_WF (w : qcW) : Prop := qcNF ≤ w.1 ∧ ∀ c, c = 270 ∨ c = 273 ∨ c = 276 → w.2.1 c = 0 ∧ (w.2.1 (c + 1) = 100 ∧ w.2.2 (c + 1) = 200) ∧ w.2.1 (c + 2) = 100 ∧ w.2.2 (c + 2) = 200
/-- an act's change of the pile -/
def qh (o : Int32) : Int32 := if 10 ≤ o then (if 20 ≤ o then (if 100 ≤ o then (if o < 1200 then -1 else if o ≤ 1400 then (if o ≤ 1750 then (if o = 1800 then -1 else if o = 1801 then -1 else 0) else if 1800 ≤ o then (if o = 1800 then -1 else if o = 1801 then -1 else 0) else -1) else if o < 1500 then -1 else (if o ≤ 1750 then (if o = 1800 then -1 else if o = 1801 then -1 else 0) else if 1800 ≤ o then (if o = 1800 then -1 else if o = 1801 then -1 else 0) else -1)) else -2) else 0) else 1
section
variable {w : qcW} {I : qTI} {L : qTL} {D : qTD} {R : qTR} {c : Nat}
theorem qc_WF_io (hW : qc_WF w) (hc : c = 270 ∨ c = 273 ∨ c = 276) : qc_io w c 0 = true ∧ qc_ia w (c + 1) 100 = true ∧ w.2.2 (c + 1) = 200 ∧ qc_ia w (c + 2) 100 = true ∧ w.2.2 (c + 2) = 200 ∧ qcSX c = true ∧ qcSX (c + 1) = true ∧ qcSX (c + 2) = true := by
  obtain ⟨h1, h2⟩ := hW
  obtain ⟨a1, ⟨a2, a3⟩, a4, a5⟩ := h2 c hc
  have hn : qcNF = 338 := rfl
  have hlt : ∀ x, x < 291 → qcSX x = true := fun x hx => Nat.blt_eq.mpr hx
  have b1 : ∀ x, x < 291 → Nat.blt x w.1 = true := fun x hx => Nat.blt_eq.mpr (by omega)
  have b2 : ∀ x, 256 ≤ x → Nat.ble 256 x = true := fun x hx => Nat.ble_eq.mpr hx
  refine ⟨?_, ?_, a3, ?_, a5, hlt _ (by omega), hlt _ (by omega), hlt _ (by omega)⟩
  · unfold qc_io
    rw [b2 c (by omega), b1 c (by omega), a1]
    rfl
  · unfold qc_ia
    rw [b2 _ (by omega), b1 _ (by omega), a2]
    rfl
  · unfold qc_ia
    rw [b2 _ (by omega), b1 _ (by omega), a4]
    rfl
theorem qfr_c (hR : qc_FR R) (hc : c = 270 ∨ c = 273 ∨ c = 276) : R c 0 = c + 1 ∧ R c 1 = c + 2 := by
  rcases hc with rfl | rfl | rfl
  · exact ⟨qfr_270_0 hR, qfr_270_1 hR⟩
  · exact ⟨qfr_273_0 hR, qfr_273_1 hR⟩
  · exact ⟨qfr_276_0 hR, qfr_276_1 hR⟩
theorem cx_change (o : Int32) : fX0_change w I L D R o = some (qh o, I, L, D, R) := by
  unfold fX0_change fX0_change_b60 fX0_change_b46 fX0_change_b64 fX0_change_b60 fX0_change_b65 qh
  simp only [show ¬ (1 : Int32) = 0 by decide, if_false, if_true]
  repeat' split
  all_goals rfl
/-- an act added -/
theorem cx_add (hW : qc_WF w) (hR : qc_FR R) (hc : c = 270 ∨ c = 273 ∨ c = 276) {n : Nat} (h2 : I c 2 = nI n) (hn : n < 2 ^ 30) (o a : Int32) :
    ∃ I' : qTI, fX0_add w I L D R c o a = some ((), I', L, D, R) ∧ (∀ x, x ≠ c → x ≠ c + 1 → x ≠ c + 2 → I' x = I x) ∧ I' c 2 = nI (n + 1) ∧ I' c 3 = I c 3 + qh o ∧ I' c 4 = (if I c 4 < I c 3 + qh o then I c 3 + qh o else I c 4) ∧ (∀ k, k ≠ 2 → k ≠ 3 → k ≠ 4 → I' c k = I c k) ∧
      (n < 200 → I' (c + 1) = qi_up (I (c + 1)) n o ∧ I' (c + 2) = qi_up (I (c + 2)) n a) ∧ (200 ≤ n → I' (c + 1) = I (c + 1) ∧ I' (c + 2) = I (c + 2)) := by
  obtain ⟨w1, w2, w3, w4, w5, s1, s2, s3⟩ := qc_WF_io hW hc
  obtain ⟨r0, r1⟩ := qfr_c hR hc
  have key : ∀ J : qTI, J c 2 = nI n → J c 3 = I c 3 → J c 4 = I c 4 → ∃ I' : qTI, fX0_add_b30 w J L D R c o = some ((), I', L, D, R) ∧ (∀ x, x ≠ c → I' x = J x) ∧ I' c 2 = nI (n + 1) ∧ I' c 3 = I c 3 + qh o ∧ I' c 4 = (if I c 4 < I c 3 + qh o then I c 3 + qh o else I c 4) ∧ (∀ k, k ≠ 2 → k ≠ 3 → k ≠ 4 → I' c k = J c k) := by
    intro J j2 j3 j4
    unfold fX0_add_b30
    rw [w1, qc_gdt, s1, qc_gdt, cx_change, qc_bds, qc_gdt, j2, qi_s1]
    have e3 : qc_u J c 2 (nI (n + 1)) c 3 = I c 3 := by rw [qc_u_ne _ _ (Or.inr (by decide)), j3]
    rw [e3, qc_u_at, qc_u_ne _ _ (Or.inr (show 4 ≠ 3 by decide)), qc_u_ne _ _ (Or.inr (show 4 ≠ 2 by decide)), j4]
    have em : fJ9_max_7cf53 w (qc_u (qc_u J c 2 (nI (n + 1))) c 3 (I c 3 + qh o)) L D R (I c 4) (I c 3 + qh o) = some ((if I c 4 < I c 3 + qh o then I c 3 + qh o else I c 4), qc_u (qc_u J c 2 (nI (n + 1))) c 3 (I c 3 + qh o), L, D, R) := by
      unfold fJ9_max_7cf53
      split <;> rfl
    rw [em, qc_bds, qc_gdt]
    refine ⟨_, rfl, fun x hx => by rw [qc_u_off _ _ hx, qc_u_off _ _ hx, qc_u_off _ _ hx], ?_, ?_, qc_u_at _ _ _ _, fun k k2 k3 k4 => ?_⟩
    · rw [qc_u_ne _ _ (Or.inr (by decide)), qc_u_ne _ _ (Or.inr (by decide)), qc_u_at]
    · rw [qc_u_ne _ _ (Or.inr (by decide)), qc_u_at]
    · rw [qc_u_ne _ _ (Or.inr k4), qc_u_ne _ _ (Or.inr k3), qc_u_ne _ _ (Or.inr k2)]
  unfold fX0_add
  rw [w1, qc_gdt, h2]
  by_cases hn2 : 200 ≤ n
  · rw [if_pos (show (200 : Int32) ≤ nI n from (qi_le (a := 200) (by decide) (by omega)).mpr hn2)]
    obtain ⟨I', e1, e2, e3, e4, e5, e6⟩ := key I h2 rfl rfl
    exact ⟨I', e1, fun x x1 _ _ => e2 x x1, e3, e4, e5, e6, fun z => by omega, fun _ => ⟨e2 _ (by omega), e2 _ (by omega)⟩⟩
  · rw [if_neg (show ¬ (200 : Int32) ≤ nI n from fun z => hn2 ((qi_le (a := 200) (by decide) (by omega)).mp z)), r0, r1, w2, w3, w4, w5, s2, s3, qi_inbN (show n < 200 by omega) (by decide), qc_gdt, qc_gdt, qc_gdt, qc_gdt, qc_u_ne _ _ (Or.inl (show c ≠ c + 1 by omega)), h2, qi_inbN (show n < 200 by omega) (by decide), qc_gdt, qc_gdt, nI_clamp (by omega)]
    have o1 : ∀ k, qc_u (qc_u I (c + 1) n o) (c + 2) n a c k = I c k := fun k => by rw [qc_u_ne _ _ (Or.inl (by omega)), qc_u_ne _ _ (Or.inl (by omega))]
    obtain ⟨I', e1, e2, e3, e4, e5, e6⟩ := key (qc_u (qc_u I (c + 1) n o) (c + 2) n a) ((o1 2).trans h2) (o1 3) (o1 4)
    refine ⟨I', e1, fun x x1 x2 x3 => by rw [e2 x x1, qc_u_off _ _ x3, qc_u_off _ _ x2], e3, e4, e5, fun k k2 k3 k4 => (e6 k k2 k3 k4).trans (o1 k), fun _ => ⟨?_, ?_⟩, fun z => by omega⟩
    · rw [e2 _ (by omega), qc_u_off _ _ (show c + 1 ≠ c + 2 by omega), qi_u_on]
    · rw [e2 _ (by omega), qi_u_on, qc_u_off _ _ (show c + 2 ≠ c + 1 by omega)]
theorem cx_aim (hW : qc_WF w) (hR : qc_FR R) (hc : c = 270 ∨ c = 273 ∨ c = 276) {j : Nat} (hj : j < 2 ^ 30) :
    fX0_aim w I L D R c (nI j) = some ((), (if j < 200 then qc_u I (c + 2) j (I c 2) else I), L, D, R) := by
  obtain ⟨w1, w2, w3, w4, w5, s1, s2, s3⟩ := qc_WF_io hW hc
  obtain ⟨r0, r1⟩ := qfr_c hR hc
  unfold fX0_aim
  rw [w1, qc_gdt, if_neg (fun z => by have := Int32.lt_iff_toInt_lt.mp z; rw [nI_toInt (by omega)] at this; have : (0 : Int32).toInt = 0 := rfl; omega)]
  by_cases h : j < 200
  · rw [if_neg (show ¬ (200 : Int32) ≤ nI j from fun z => by have := (qi_le (a := 200) (by decide) (by omega)).mp z; omega), r1, w4, w5, s3, qi_inbN h (by decide), qc_gdt, qc_gdt, qc_gdt, nI_clamp (by omega), if_pos h]
  · rw [if_pos (show (200 : Int32) ≤ nI j from (qi_le (a := 200) (by decide) (by omega)).mpr (by omega)), if_neg h]
theorem cx_otherWay (hW : qc_WF w) (hc : c = 270 ∨ c = 273 ∨ c = 276) : fX0_otherWay w I L D R c = some ((), qc_u I c 3 (I c 3 - 1), L, D, R) := by
  obtain ⟨w1, w2, w3, w4, w5, s1, s2, s3⟩ := qc_WF_io hW hc
  unfold fX0_otherWay
  rw [w1, qc_gdt, s1, qc_gdt]
end
