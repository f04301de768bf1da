/-! the class's parser: when a fault was told, all goes on by itself -/
/-- what may change -/
def fX (c : Nat) (I : qTI) (D : qTD) (R : qTR) (I' : qTI) (D' : qTD) (R' : qTR) : Prop :=
  (∀ x k, x ≠ 268 → x ≠ c → x ≠ c + 1 → x ≠ c + 2 → ¬ (x = 267 ∧ (k = 5 ∨ k = 6)) → I' x k = I x k) ∧ (∀ x, x ≠ 268 → x ≠ 279 → D' x = D x) ∧ ∀ x k, ¬ (x = 268 ∧ k = 1) → R' x k = R x k
theorem fX_rf (c : Nat) (I : qTI) (D : qTD) (R : qTR) : fX c I D R I D R := ⟨fun _ _ _ _ _ _ _ => rfl, fun _ _ _ => rfl, fun _ _ _ => rfl⟩
theorem fX_tr {c : Nat} {I I1 I2 : qTI} {D D1 D2 : qTD} {R R1 R2 : qTR} (h : fX c I D R I1 D1 R1) (g : fX c I1 D1 R1 I2 D2 R2) : fX c I D R I2 D2 R2 :=
  ⟨fun x k a1 a2 a3 a4 a5 => (g.1 x k a1 a2 a3 a4 a5).trans (h.1 x k a1 a2 a3 a4 a5), fun x a1 a2 => (g.2.1 x a1 a2).trans (h.2.1 x a1 a2), fun x k a1 => (g.2.2 x k a1).trans (h.2.2 x k a1)⟩
theorem fX_C {c : Nat} {I I' : qTI} (h : fC c I I') (D : qTD) (R : qTR) : fX c I D R I' D R := ⟨fun x k _ a2 a3 a4 _ => by rw [h x a2 a3 a4], fun _ _ _ => rfl, fun _ _ _ => rfl⟩
theorem qfr_268 : ∀ q ∈ qc_frL, ¬ (q.1 = 268 ∧ q.2.1 = 1) ∧ ¬ (q.1 = 267 ∧ q.2.1 = 4) := by decide
theorem fX_FR {c : Nat} {I I' : qTI} {D D' : qTD} {R R' : qTR} (h : fX c I D R I' D' R') (hR : qc_FR R) : qc_FR R' := fun q hq => (h.2.2 q.1 q.2.1 (qfr_268 q hq).1).trans (hR q hq)
def eS (c : Nat) (e : Nat × Nat) (n : Nat) (I : qTI) (R : qTR) : Prop := sE e I R ∧ R 267 4 = c ∧ qc_FR R ∧ I c 2 = nI n
def eU {α : Type} (c : Nat) (e : Nat × Nat) (n k : Nat) (I : qTI) (L : qTL) (D : qTD) (R : qTR) (out : qcO α) : Prop :=
  ∃ (r : α) (I' : qTI) (D' : qTD) (R' : qTR) (n' : Nat), out = some (r, I', L, D', R') ∧ fX c I D R I' D' R' ∧ eS c e n' I' R' ∧ n ≤ n' ∧ n' ≤ n + k
section
variable {w : qcW} {I : qTI} {L : qTL} {D : qTD} {R : qTR} {c n k k2 : Nat} {e : Nat × Nat}
theorem eU_bd {α β : Type} {out : qcO α} {f : α → qTI → qTL → qTD → qTR → qcO β} (h : eU c e n k I L D R out) (g : ∀ (r : α) (I : qTI) (D : qTD) (R : qTR) (n' : Nat), eS c e n' I R → n ≤ n' → n' ≤ n + k → eU c e n' k2 I L D R (f r I L D R)) : eU c e n (k + k2) I L D R (qc_bd out f) := by
  obtain ⟨r, I1, D1, R1, n1, e1, f1, s1, h1, h2⟩ := h
  obtain ⟨r2, I2, D2, R2, n2, e2, f2, s2, h3, h4⟩ := g r I1 D1 R1 n1 s1 h1 h2
  rw [e1, qc_bds]
  exact ⟨r2, I2, D2, R2, n2, e2, fX_tr f1 f2, s2, by omega, by omega⟩
theorem eU_some {α : Type} (h : eS c e n I R) (r : α) : eU c e n 0 I L D R (some (r, I, L, D, R)) := ⟨r, I, D, R, n, rfl, fX_rf _ _ _ _, h, Nat.le_refl _, Nat.le_refl _⟩
theorem eU_mono {α : Type} {out : qcO α} (h : eU c e n k I L D R out) (hk : k ≤ k2) : eU c e n k2 I L D R out := by
  obtain ⟨r, I1, D1, R1, n1, e1, f1, s1, h1, h2⟩ := h
  exact ⟨r, I1, D1, R1, n1, e1, f1, s1, h1, by omega⟩
theorem eS_6 (h : eS c e n I R) : I 268 6 ≠ 0 := by
  obtain ⟨⟨a1, a2, a3, a4, a5⟩, -⟩ := h
  rw [a1]
  exact fun z => by have := qi_nI_inj (j := 0) (by omega) (by decide) z; omega
theorem eU_refuse (h : eS c e n I R) (k a : Int32) : eU c e n 0 I L D R (fX9_refuse w I L D R k a) := by
  rw [cx_refuse0 (eS_6 h)]
  exact eU_some h ()
theorem eU_take (h : eS c e n I R) : eU c e n 0 I L D R (fX9_take w I L D R) := by
  rw [cx_tk0 (eS_6 h)]
  exact eU_some h ()
theorem eU_misplaced (h : eS c e n I R) : eU c e n 0 I L D R (fX2_misplaced w I L D R) := eU_bd (k := 0) (k2 := 0) (eU_refuse h _ _) (fun r I D R n' h _ _ => eU_some h ())
theorem eU_fit (h : eS c e n I R) (x1 x2 : Int32) : eU c e n 0 I L D R (fX2_fit w I L D R x1 x2) := by
  unfold fX2_fit
  split
  · exact eU_bd (k := 0) (k2 := 0) (eU_refuse h _ _) (fun r I D R n' h _ _ => eU_some h ())
  · exact eU_some h ()
theorem eS_m (h : eS c e n I R) : R 268 1 = 4 := h.1.2.2.2.2
theorem eS_l (h : eS c e n I R) : qc_l62 (R 268 1) = true := by rw [eS_m h]; rfl
theorem eU_expect (h : eS c e n I R) {m : Nat} (hm : m < 62) (h4 : m ≠ 4) : eU c e n 0 I L D R (fX2_expect w I L D R m) := by
  unfold fX2_expect fX2_expect_b15
  rw [show qc_l62 m = true from Nat.ble_eq.mpr hm, eS_l h, qc_gdt, qc_gdt, eS_m h, if_neg (fun z => h4 z.symm)]
  exact eU_bd (k := 0) (k2 := 0) (eU_misplaced h) (fun r I D R n' h _ _ => eU_bd (k := 0) (k2 := 0) (eU_take h) (fun r I D R n' h _ _ => eU_some h ()))
theorem eU_took (h : eS c e n I R) {m : Nat} (hm : m < 62) (h4 : m ≠ 4) : fX2_took w I L D R m = some (false, I, L, D, R) := by
  unfold fX2_took
  rw [show qc_l62 m = true from Nat.ble_eq.mpr hm, eS_l h, qc_gdt, qc_gdt, eS_m h, if_neg (fun z => h4 z.symm)]
/-- how many are open doesn't matter -/
theorem eS_o (h : eS c e n I R) (hc : c = 270 ∨ c = 273 ∨ c = 276) (v : Int32) : eS c e n (qc_u I 267 6 v) R := by
  obtain ⟨⟨a1, a2, a3, a4, a5⟩, b1, b2, b3⟩ := h
  exact ⟨⟨by rw [qc_u_ne _ _ (Or.inl (by decide))]; exact a1, a2, a3, by rw [qc_u_ne _ _ (Or.inl (by decide))]; exact a4, a5⟩, b1, b2, by rw [qc_u_ne _ _ (Or.inl (by omega))]; exact b3⟩
theorem fX_o (c : Nat) (I : qTI) (D : qTD) (R : qTR) (v : Int32) : fX c I D R (qc_u I 267 6 v) D R := ⟨fun x k _ _ _ _ h => qc_u_ne _ _ (by omega), fun _ _ _ => rfl, fun _ _ _ => rfl⟩
theorem eU_o {α : Type} {out : qcO α} (hc : c = 270 ∨ c = 273 ∨ c = 276) {v : Int32} (h : eU c e n k (qc_u I 267 6 v) L D R out) : eU c e n k I L D R out := by
  obtain ⟨r, I1, D1, R1, n1, e1, f1, s1, h1, h2⟩ := h
  exact ⟨r, I1, D1, R1, n1, e1, fX_tr (fX_o c I D R v) f1, s1, h1, h2⟩
theorem eU_openOne (hc : c = 270 ∨ c = 273 ∨ c = 276) (h : eS c e n I R) : eU c e n 0 I L D R (fX2_openOne w I L D R) := by
  unfold fX2_openOne fX2_openOne_b24
  split
  · exact eU_o hc (v := I 267 6 + 1) (eU_some (eS_o h hc _) ())
  · exact eU_bd (k := 0) (k2 := 0) (eU_refuse h _ _) (fun r I D R n' h _ _ => eU_o hc (v := I 267 6 + 1) (eU_some (eS_o h hc _) ()))
theorem eS_C {I' : qTI} {n' : Nat} (h : eS c e n I R) (hc : c = 270 ∨ c = 273 ∨ c = 276) (hf : fC c I I') (h2 : I' c 2 = nI n') : eS c e n' I' R := by
  obtain ⟨⟨a1, a2, a3, a4, a5⟩, b1, b2, b3⟩ := h
  have : I' 268 = I 268 := hf 268 (by omega) (by omega) (by omega)
  exact ⟨⟨by rw [this]; exact a1, a2, a3, by rw [this]; exact a4, a5⟩, b1, b2, h2⟩
theorem eU_add (hW : qc_WF w) (hc : c = 270 ∨ c = 273 ∨ c = 276) (h : eS c e n I R) (hn : n < 2 ^ 30) (o a : Int32) : eU c e n 1 I L D R (fX0_add w I L D R c o a) := by
  obtain ⟨I', e1, e2, e3, -⟩ := cx_add (w := w) (L := L) (D := D) hW h.2.2.1 hc h.2.2.2 hn o a
  exact ⟨(), I', D, R, n + 1, e1, fX_C e2 D R, eS_C h hc e2 e3, by omega, by omega⟩
theorem eU_addJump (hW : qc_WF w) (hc : c = 270 ∨ c = 273 ∨ c = 276) (h : eS c e n I R) (hn : n < 2 ^ 30) (o : Int32) : ∃ I', fX0_addJump w I L D R c o = some (nI n, I', L, D, R) ∧ fC c I I' ∧ eS c e (n + 1) I' R := by
  obtain ⟨I', e1, e2, e3, -⟩ := cx_add (w := w) (L := L) (D := D) hW h.2.2.1 hc h.2.2.2 hn o 0
  obtain ⟨w1, -⟩ := qc_WF_io hW hc
  refine ⟨I', ?_, e2, eS_C h hc e2 e3⟩
  unfold fX0_addJump
  rw [w1, qc_gdt, e1, qc_bds, e3]
  rw [show nI (n + 1) - 1 = nI n from qi_sub (a := n + 1) (b := 1) (by omega)]
theorem eU_aim (hW : qc_WF w) (hc : c = 270 ∨ c = 273 ∨ c = 276) (h : eS c e n I R) {j : Nat} (hj : j < 2 ^ 30) : eU c e n 0 I L D R (fX0_aim w I L D R c (nI j)) := by
  have hoff : ∀ x, x ≠ c + 2 → (if j < 200 then qc_u I (c + 2) j (I c 2) else I) x = I x := fun x hx => by
    split
    · exact qc_u_off _ _ hx
    · rfl
  have hf : fC c I (if j < 200 then qc_u I (c + 2) j (I c 2) else I) := fun x _ _ h3 => hoff x h3
  exact ⟨(), _, D, R, n, cx_aim hW h.2.2.1 hc hj, fX_C hf D R, eS_C h hc hf (by rw [hoff c (by omega)]; exact h.2.2.2), Nat.le_refl _, Nat.le_refl _⟩
theorem eU_otherWay (hW : qc_WF w) (hc : c = 270 ∨ c = 273 ∨ c = 276) (h : eS c e n I R) : eU c e n 0 I L D R (fX0_otherWay w I L D R c) := by
  have hf : fC c I (qc_u I c 3 (I c 3 - 1)) := fun x h1 _ _ => qc_u_off _ _ h1
  exact ⟨(), _, D, R, n, cx_otherWay hW hc, fX_C hf D R, eS_C h hc hf (by rw [qc_u_ne _ _ (Or.inr (by decide))]; exact h.2.2.2), Nat.le_refl _, Nat.le_refl _⟩
theorem eU_convert (hW : qc_WF w) (hc : c = 270 ∨ c = 273 ∨ c = 276) (h : eS c e n I R) (hn : n < 2 ^ 30) (f t : Int32) : eU c e n 1 I L D R (fX0_convert w I L D R c f t) := by
  obtain ⟨w1, -⟩ := qc_WF_io hW hc
  unfold fX0_convert fX0_conversion
  rw [w1, qc_gdt]
  split
  · exact eU_mono (eU_some h ()) (by decide)
  · rw [qc_bds]
    exact eU_bd (k := 1) (k2 := 0) (eU_add hW hc h hn _ _) (fun r I D R n' h _ _ => eU_some h ())
theorem eU_convertAt (hW : qc_WF w) (hc : c = 270 ∨ c = 273 ∨ c = 276) (h : eS c e n I R) (hn : n < 2 ^ 30) {j : Nat} (hj : j ≤ n) (f t : Int32) : eU c e n 1 I L D R (fX0_convertAt w I L D R c (nI j) f t) := by
  obtain ⟨w1, w2, w3, w4, w5, s1, s2, s3⟩ := qc_WF_io hW hc
  unfold fX0_convertAt
  rw [w1, qc_gdt]
  split
  · exact eU_mono (eU_some h ()) (by decide)
  · rw [h.2.2.2]
    by_cases z : 200 ≤ n
    · rw [if_pos (show (200 : Int32) ≤ nI n from (qi_le (a := 200) (by decide) (by omega)).mpr z)]
      unfold fX0_convertAt_b89
      rw [w1, qc_gdt, s1, qc_gdt, h.2.2.2, qi_s1]
      have hf : fC c I (qc_u I c 2 (nI (n + 1))) := fun x h1 _ _ => qc_u_off _ _ h1
      exact ⟨(), _, D, R, n + 1, rfl, fX_C hf D R, eS_C h hc hf (qc_u_at _ _ _ _), by omega, by omega⟩
    · rw [if_neg (show ¬ (200 : Int32) ≤ nI n from fun y => z ((qi_le (a := 200) (by decide) (by omega)).mp y))]
      obtain ⟨I', e1, e2, e3, -⟩ := cx_shift (w := w) (L := L) (D := D) (at_ := j) hW h.2.2.1 hc (show n < 200 by omega) f t (n - j) qcF n I I (by omega) (Nat.le_refl _) (by unfold qcF; omega) h.2.2.2 (fun _ _ _ => rfl) (qm_sf_n _ _).symm (qm_sf_n _ _).symm
      exact ⟨(), I', D, R, n + 1, e1, fX_C e2 D R, eS_C h hc e2 e3, by omega, by omega⟩
theorem cx_max (x y : Int32) : fJ9_max_7cf53 w I L D R x y = some ((if x < y then y else x), I, L, D, R) := by
  unfold fJ9_max_7cf53
  split <;> rfl
theorem qc_WF_i (hW : qc_WF w) (hc : c = 270 ∨ c = 273 ∨ c = 276) : qc_io w c 0 = true := (qc_WF_io hW hc).1
/-- the whole family does nothing when a fault was told -/
theorem eR_func (h : eS c e n I R) (rc : qcRc) : fX2_function w rc I L D R = some (0, I, L, D, R) := by
  unfold fX2_function fX2_misplaced
  rw [eS_l h, qc_gdt, eS_m h, if_pos (by decide), cx_refuse0 (eS_6 h), qc_bds, qc_bds]
theorem eR_part (h : eS c e n I R) {rc : qcRc} (hr : rc 7 0 I L D R = some (0, I, L, D, R)) : fX2_part w rc I L D R = some (0, I, L, D, R) := by
  unfold fX2_part
  rw [eS_l h, qc_gdt, eS_m h, if_neg (by decide), if_neg (by decide), if_neg (by decide), if_neg (by decide), if_neg (by decide), if_neg (by decide), if_neg (by decide), hr, qc_bds]
theorem eR_signed (h : eS c e n I R) {rc : qcRc} (hr : rc 5 0 I L D R = some (0, I, L, D, R)) : fX2_signed w rc I L D R = some (0, I, L, D, R) := by
  unfold fX2_signed
  rw [eS_l h, qc_gdt, eS_m h, if_neg (by decide), if_neg (by decide), hr, qc_bds]
theorem eR_loop (h : eS c e n I R) {rc : qcRc} {x1 x2 x3 : Int32} (hx : 0 ≤ x1) (N : Nat) (x4 : Int32) : fX2_joined_l39 w rc (N + 1) (I, L, D, R, x1, x2, x3, x4) = some (x3, I, L, D, R) := by
  rw [fX2_joined_l39_s]
  unfold fX2_joined_b39
  have hlv : qc_mfV 0 4 = -1 := rfl
  split
  · rfl
  · unfold fX2_isJoint
    rw [eS_l h, qc_gdt, eS_m h, hlv, if_pos (Int32.lt_of_lt_of_le (show (-1 : Int32) < 0 by decide) hx), qc_bds, if_neg (by decide)]
theorem eR_joined (h : eS c e n I R) {rc : qcRc} {x : Int32} (hx : 0 ≤ x) (hr : rc 4 0 I L D R = some (0, I, L, D, R)) : fX2_joined w rc I L D R x = some (0, I, L, D, R) := by
  unfold fX2_joined fX2_joined_b31 fX2_joined_b36
  rw [eS_l h, qc_gdt, eS_m h, if_neg (show ¬ 4 = 19 by decide), hr, qc_bds]
  have : qcF = 4095 + 1 := rfl
  rw [this]
  split
  · exact eR_loop h hx 4095 0
  · exact eR_loop h hx 4095 0
theorem eR (h : eS c e n I R) : ∀ nc, (1 ≤ nc → fX2_rc w nc 7 0 I L D R = some (0, I, L, D, R)) ∧ (2 ≤ nc → fX2_rc w nc 5 0 I L D R = some (0, I, L, D, R)) ∧ (3 ≤ nc → fX2_rc w nc 4 0 I L D R = some (0, I, L, D, R)) ∧ (4 ≤ nc → ∀ x, 0 ≤ x → fX2_rc w nc 2 x I L D R = some (0, I, L, D, R)) ∧ (5 ≤ nc → fX2_rc w nc 0 0 I L D R = some (0, I, L, D, R))
  | 0 => ⟨by omega, by omega, by omega, by omega, by omega⟩
  | nc + 1 => by
    obtain ⟨i1, i2, i3, i4, i5⟩ := eR h nc
    refine ⟨fun _ => eR_func h _, fun z => eR_part h (i1 (by omega)), fun z => eR_signed h (i2 (by omega)), fun z x hx => eR_joined h hx (i3 (by omega)), fun z => ?_⟩
    show fX2_sum w (fX2_rc w nc) I L D R = _
    unfold fX2_sum
    rw [i4 (by omega) 0 (by decide), qc_bds, eS_l h, qc_gdt, eS_m h, if_neg (by decide)]
theorem eU_rc0 (h : eS c e n I R) {nc : Nat} (hn : 5 ≤ nc) : eU c e n 0 I L D R (fX2_rc w nc 0 0 I L D R) := by rw [(eR h nc).2.2.2.2 hn]; exact eU_some h 0
theorem eU_rc2 (h : eS c e n I R) {nc : Nat} (hn : 4 ≤ nc) {x : Int32} (hx : 0 ≤ x) : eU c e n 0 I L D R (fX2_rc w nc 2 x I L D R) := by rw [(eR h nc).2.2.2.1 hn x hx]; exact eU_some h 0
theorem eU_rc4 (h : eS c e n I R) {nc : Nat} (hn : 3 ≤ nc) : eU c e n 0 I L D R (fX2_rc w nc 4 0 I L D R) := by rw [(eR h nc).2.2.1 hn]; exact eU_some h 0
end
