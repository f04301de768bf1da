/-! calls that are simple -/
theorem qi_inb_iff (x : Int32) (n : Nat) : qc_inb x n = true ↔ (0 ≤ x.toInt ∧ x.toInt < n) := by
  unfold qc_inb
  rw [Bool.and_eq_true, decide_eq_true_eq, decide_eq_true_eq]
theorem qi_inbF {x : Int32} {n : Nat} (h : ¬ (0 ≤ x.toInt ∧ x.toInt < n)) : qc_inb x n = false := by
  cases e : qc_inb x n
  · rfl
  · exact absurd ((qi_inb_iff x n).mp e) h
section
variable {w : qcW} {I : qTI} {L : qTL} {D : qTD} {R : qTR}
theorem fm_in {x : Int32} {c : Int64} (n : Nat) (h : c.toInt = (n : Int) - 1) : fX12_in w I L D R (Int32.toInt64 x) 0 c = some (qc_inb x n, I, L, D, R) := by
  unfold fX12_in
  simp only [lg_cmp_lt, lg_cmp_gt, Int64.lt_iff_toInt_lt, Int32.toInt_toInt64, h, show (0 : Int64).toInt = 0 from rfl]
  by_cases h1 : x.toInt < 0
  · rw [if_pos h1, qi_inbF (by omega)]
  · rw [if_neg h1]
    by_cases h2 : (n : Int) - 1 < x.toInt
    · rw [if_pos h2, qi_inbF (by omega)]
    · rw [if_neg h2, (qi_inb_iff x n).mpr (by omega)]
theorem qi_m1 {s : Int32} {n : Nat} (h : s = nI n) (hn : n < 2 ^ 30) : (Int32.toInt64 (s - 1)).toInt = (n : Int) - 1 := by
  rw [Int32.toInt_toInt64, h]
  exact qi_dif (b := 1) hn (by decide)
theorem fm_isColumn (x : Int32) : fX12_isColumn w I L D R x = some (qc_inb x 10, I, L, D, R) := by
  unfold fX12_isColumn
  rw [fm_in 10 (by decide)]
  rfl
theorem fx_isColumn (x : Int32) : fX1_isColumn w I L D R x = some (qc_inb x 10, I, L, D, R) := by
  unfold fX1_isColumn
  simp only [Int32.lt_iff_toInt_lt, Int32.le_iff_toInt_le, show (0 : Int32).toInt = 0 from rfl, show (10 : Int32).toInt = 10 from rfl]
  by_cases h1 : x.toInt < 0
  · rw [if_pos h1, qi_inbF (by omega)]
  · rw [if_neg h1]
    by_cases h2 : x.toInt < 10
    · simp only [h2, if_true, show ¬ (10 : Int) ≤ x.toInt by omega, if_false]
      rw [(qi_inb_iff x 10).mpr (by omega)]
    · simp only [h2, if_false, show (10 : Int) ≤ x.toInt by omega, if_true]
      rw [qi_inbF (by omega)]
theorem fx_isLane (x : Int32) : fX1_isLane w I L D R x = some (qc_inb x 8, I, L, D, R) := by
  unfold fX1_isLane
  simp only [Int32.lt_iff_toInt_lt, Int32.le_iff_toInt_le, show (0 : Int32).toInt = 0 from rfl, show (8 : Int32).toInt = 8 from rfl]
  by_cases h1 : x.toInt < 0
  · rw [if_pos h1, qi_inbF (by omega)]
  · rw [if_neg h1]
    by_cases h2 : x.toInt < 8
    · simp only [h2, if_true, show ¬ (8 : Int) ≤ x.toInt by omega, if_false]
      rw [(qi_inb_iff x 8).mpr (by omega)]
    · simp only [h2, if_false, show (8 : Int) ≤ x.toInt by omega, if_true]
      rw [qi_inbF (by omega)]
theorem qi_k {x : Int32} {n : Nat} (h : qc_inb x n = true) (hn : n < 2 ^ 31) : ∃ k, k < n ∧ x = nI k ∧ x.toNatClampNeg = k := by
  obtain ⟨k, hk, rfl⟩ := qc_inb_of h hn
  exact ⟨k, hk, rfl, by rw [nI_clamp (by omega)]⟩
end
theorem qi_lat_row {n n' : Int32} {lX lM lM' : Nat → Int32} {ac : Int64} {how : Nat} {wX wM : Nat → Int32} {sX sM : Nat → UInt64} {kX kM vX vM : Nat → Int64} {dX dM : Nat → UInt64} {hw : Nat → Int32} (h : qi_lat n lX lM ac how wX wM sX sM kX kM vX vM dX dM hw) (hn : n' = n) (h0 : lM' 77 = lM 77) (h1 : lM' 78 = lM 78) (h2 : lM' 79 = lM 79) (h3 : lM' 80 = lM 80) (h4 : lM' 81 = lM 81) (h5 : lM' 82 = lM 82) (h6 : lM' 88 = lM 88) : qi_lat n' lX lM' ac how wX wM sX sM kX kM vX vM dX dM hw := by
  unfold qi_lat at h ⊢
  rw [hn, h0, h1, h2, h3, h4, h5, h6]
  exact h
theorem qq_fr {w : qcW} {I I' : qTI} {D D' : qTD} {R R' : qTR} {q : Nat} (h : qq_Q w I D R q) (h1 : qv 0 I' = qv 0 I) (h2 : qv 0 D' = qv 0 D) (h3 : qv 0 R' = qv 0 R) : qq_Q w I' D' R' q := by
  unfold qq_Q at h ⊢
  rw [h1, h2, h3]
  exact h
/-! how one part of it changes -/
section
variable {w : qcW} {I I' : qTI} {L L' : qTL} {D D' : qTD} {R : qTR}
theorem qv_eq {α : Type} {z : α} {f g : Nat → Nat → α} (h : ∀ a, qv_vis a = true → g a = f a) : qv z g = qv z f := by
  funext a k
  unfold qv
  split
  · rename_i hv
    rw [h a hv]
  · rfl
theorem Inv.obj (h : Inv w (I, L, D, R)) {x : Int32} (hx : qc_inb x 17 = true) : Inv w (qc_u (qc_u I 256 7 x) 291 0 x, L, D, R) := by
  obtain ⟨a1, a2, ⟨a3, a3'⟩, a4, a5, a6, a7, ⟨a8, n, a9, a10, a11⟩, a12⟩ := h
  have e : ∀ a, a ≠ 256 → a ≠ 291 → (qc_u (qc_u I 256 7 x) 291 0 x) a = I a := fun a h1 h2 => by rw [qc_u_off _ _ h2, qc_u_off _ _ h1]
  have e1 : ∀ k, k ≠ 7 → (qc_u (qc_u I 256 7 x) 291 0 x) 256 k = I 256 k := fun k hk => by simp [qc_u, hk]
  have e2 : ∀ k, k ≠ 0 → (qc_u (qc_u I 256 7 x) 291 0 x) 291 k = I 291 k := fun k hk => by simp [qc_u, hk]
  refine ⟨a1, a2, ⟨by simp [qc_u], by simp [qc_u, hx]⟩, ?_, ?_, ?_, a7, ⟨?_, n, ?_, a10, fun q hq => ?_⟩, ?_⟩
  · simp only [e 258 (by decide) (by decide), e 292 (by decide) (by decide), e 259 (by decide) (by decide), e 293 (by decide) (by decide), e 260 (by decide) (by decide), e 294 (by decide) (by decide)]
    exact a4
  · simp only [qi_tape, e 265 (by decide) (by decide), e 266 (by decide) (by decide), e 297 (by decide) (by decide), e2 7 (by decide)]
    exact a5
  · simp only [e1 8 (by decide), e2 64 (by decide)]
    exact a6
  · simp only [e1 6 (by decide), e2 40 (by decide)]
    exact a8
  · simp only [e1 6 (by decide)]
    exact a9
  · exact qq_fr (a11 q hq) (qv_eq fun a ha => e a (fun q => by rw [q] at ha; cases ha) (fun q => by rw [q] at ha; cases ha)) rfl rfl
  · simp only [e 280 (by decide) (by decide), e 281 (by decide) (by decide), e 333 (by decide) (by decide), e 321 (by decide) (by decide)]
    exact qi_lat_row a12 (e1 6 (by decide)) (e2 _ (by decide)) (e2 _ (by decide)) (e2 _ (by decide)) (e2 _ (by decide)) (e2 _ (by decide)) (e2 _ (by decide)) (e2 _ (by decide))
def qz_c (a : Nat) : Bool := (Nat.ble 257 a && Nat.ble a 264) || (Nat.ble 292 a && Nat.ble a 296)
theorem Inv.cols (h : Inv w (I, L, D, R)) (hI : ∀ a, qz_c a = false → I' a = I a) (hL : ∀ a, qz_c a = false → L' a = L a) (hD : ∀ a, qz_c a = false → D' a = D a) (hc : qi_cols (I' 258) (I' 292) (I' 259) (I' 293) (I' 260) (I' 294) (L' 261) (L' 295) (D' 262) (D' 296)) : Inv w (I', L', D', R) := by
  obtain ⟨a1, a2, ⟨a3, a3'⟩, a4, a5, a6, a7, ⟨a8, n, a9, a10, a11⟩, a12⟩ := h
  have vz : ∀ a, qv_vis a = true → qz_c a = false := by
    intro a ha
    unfold qv_vis at ha
    unfold qz_c
    simp only [Bool.or_eq_true, Bool.and_eq_true, Nat.ble_eq, Nat.beq_eq] at ha
    cases hz : (Nat.ble 257 a && Nat.ble a 264) || (Nat.ble 292 a && Nat.ble a 296)
    · rfl
    · simp only [Bool.or_eq_true, Bool.and_eq_true, Nat.ble_eq] at hz
      omega
  refine ⟨a1, a2, ?_, hc, ?_, ?_, ?_, ⟨?_, n, ?_, a10, fun q hq => ?_⟩, ?_⟩
  · simp only [hI 256 (by decide), hI 291 (by decide)]
    exact ⟨a3, a3'⟩
  · simp only [qi_tape, hI 265 (by decide), hI 266 (by decide), hI 297 (by decide), hI 291 (by decide)]
    exact a5
  · simp only [hI 256 (by decide), hI 291 (by decide)]
    exact a6
  · simp only [hD 329 (by decide)]
    exact a7
  · simp only [hI 256 (by decide), hI 291 (by decide)]
    exact a8
  · simp only [hI 256 (by decide)]
    exact a9
  · exact qq_fr (a11 q hq) (qv_eq fun a ha => hI a (vz a ha)) (qv_eq fun a ha => hD a (vz a ha)) rfl
  · simp only [hI 256 (by decide), hI 280 (by decide), hI 291 (by decide), hI 281 (by decide), hI 333 (by decide), hI 321 (by decide), hL 291 (by decide), hL 283 (by decide), hL 335 (by decide), hL 284 (by decide), hL 336 (by decide), hD 282 (by decide), hD 334 (by decide), hD 285 (by decide), hD 337 (by decide)]
    exact a12
theorem Inv.tape (h : Inv w (I, L, D, R)) (hI : ∀ a, a ≠ 265 → a ≠ 266 → a ≠ 297 → a ≠ 291 → I' a = I a) (h291 : ∀ k, k ≠ 7 → I' 291 k = I 291 k) (ht : qi_tape I') : Inv w (I', L, D, R) := by
  obtain ⟨a1, a2, ⟨a3, a3'⟩, a4, a5, a6, a7, ⟨a8, n, a9, a10, a11⟩, a12⟩ := h
  have e : ∀ a, a ≠ 265 ∧ a ≠ 266 ∧ a ≠ 297 ∧ a ≠ 291 → I' a = I a := fun a q => hI a q.1 q.2.1 q.2.2.1 q.2.2.2
  refine ⟨a1, a2, ?_, ?_, ht, ?_, a7, ⟨?_, n, ?_, a10, fun q hq => ?_⟩, ?_⟩
  · simp only [e 256 (by decide), h291 0 (by decide)]
    exact ⟨a3, a3'⟩
  · simp only [e 258 (by decide), e 292 (by decide), e 259 (by decide), e 293 (by decide), e 260 (by decide), e 294 (by decide)]
    exact a4
  · simp only [e 256 (by decide), h291 64 (by decide)]
    exact a6
  · simp only [e 256 (by decide), h291 40 (by decide)]
    exact a8
  · simp only [e 256 (by decide)]
    exact a9
  · exact qq_fr (a11 q hq) (qv_eq fun a ha => e a ⟨(fun q => by rw [q] at ha; cases ha), (fun q => by rw [q] at ha; cases ha), (fun q => by rw [q] at ha; cases ha), (fun q => by rw [q] at ha; cases ha)⟩) rfl rfl
  · simp only [e 256 (by decide), e 280 (by decide), e 281 (by decide), e 333 (by decide), e 321 (by decide)]
    exact qi_lat_row a12 rfl (h291 _ (by decide)) (h291 _ (by decide)) (h291 _ (by decide)) (h291 _ (by decide)) (h291 _ (by decide)) (h291 _ (by decide)) (h291 _ (by decide))
end
section
variable {w : qcW} {I : qTI} {L : qTL} {D : qTD} {R : qTR}
/-- two calls that change nothing -/
theorem qv_same {ρ : Type} {fX fM : qTI → qTL → qTD → qTR → qcO ρ} (h : Inv w (I, L, D, R)) (r : ρ) (h1 : fX I L D R = some (r, I, L, D, R)) (h2 : fM I L D R = some (r, I, L, D, R)) : qv_pp w fX fM (I, L, D, R) := ⟨r, I, L, D, R, I, L, D, R, h1, h2, fun _ => h⟩
theorem pp_objects (h : Inv w (I, L, D, R)) (x : Int32) : qv_pp w (fun I L D R => fX11_objects w I L D R x) (fun I L D R => fX12_objects w I L D R x) (I, L, D, R) := by
  have hin : fX11_objects w I L D R x = if qc_inb x 17 = true then some (I 256 7, qc_u I 256 7 x, L, D, R) else some (-1, I, L, D, R) := by
    unfold fX11_objects
    simp only [Int32.lt_iff_toInt_lt, Int32.le_iff_toInt_le, show (0 : Int32).toInt = 0 from rfl, show (16 : Int32).toInt = 16 from rfl]
    by_cases h1 : x.toInt < 0
    · rw [if_pos h1, qi_inbF (by omega)]
      rfl
    · rw [if_neg h1]
      by_cases h2 : x.toInt ≤ 16
      · rw [if_pos h2, (qi_inb_iff x 17).mpr (by omega)]
        rfl
      · rw [if_neg h2, qi_inbF (by omega)]
        rfl
  have hm : ∀ J, fX12_objects w J L D R x = if qc_inb x 17 = true then some (J 291 0, qc_u J 291 0 x, L, D, R) else some (-1, J, L, D, R) := by
    intro J
    unfold fX12_objects
    rw [fm_in 17 (by decide)]
    rfl
  cases hb : qc_inb x 17
  · rw [hb] at hin
    exact qv_same h (-1) hin (by have := hm I; rw [hb] at this; exact this)
  · rw [hb, if_pos rfl] at hin
    refine ⟨_, _, _, _, _, qc_u (qc_u I 256 7 x) 291 0 x, L, D, R, hin, ?_, fun _ => h.obj hb⟩
    have := hm (qc_u I 256 7 x)
    rw [hb, if_pos rfl, qc_u_off I x (show 291 ≠ 256 by decide)] at this
    rw [show I 256 7 = I 291 0 from h.2.2.1.1]
    exact this
theorem pp_fault (h : Inv w (I, L, D, R)) : qv_pp w (fun I L D R => fX11_fault w I L D R) (fun I L D R => fX12_fault w I L D R) (I, L, D, R) :=
  qv_same h (I 256 8) rfl (by show some (I 291 64, I, L, D, R) = _; rw [show I 256 8 = I 291 64 from h.2.2.2.2.2.1])
theorem pp_told (h : Inv w (I, L, D, R)) (x : Int32) : qv_pp w (fun I L D R => fX11_told w I L D R x) (fun I L D R => fX12_told w I L D R x) (I, L, D, R) := by
  obtain ⟨b0, b1, b2, b3, b4, b5, b6, -⟩ := h.2.2.2.2.2.2.2.2
  have e : fX11_told w I L D R x = fX12_told w I L D R x := by
    unfold fX11_told fX12_told
    rw [show I 280 0 = I 291 77 from b0, show I 280 1 = I 291 78 from b1, show I 280 2 = I 291 79 from b2, show I 280 3 = I 291 80 from b3, show I 280 4 = (L 291 70).toInt32 from b4, show I 280 5 = I 291 81 from b5]
  have : ∃ r, fX12_told w I L D R x = some (r, I, L, D, R) := by
    unfold fX12_told
    repeat' split
    all_goals exact ⟨_, rfl⟩
  obtain ⟨r, hr⟩ := this
  exact qv_same h r (e.trans hr) hr
theorem qc_bds {ρ α : Type} (r : ρ) (I : qTI) (L : qTL) (D : qTD) (R : qTR) (k : ρ → qTI → qTL → qTD → qTR → Option α) : qc_bd (some (r, I, L, D, R)) k = k r I L D R := rfl
theorem qf_ff {α : Type} (a b : α) : (if false = true then a else b) = b := rfl
theorem pp_share (h : Inv w (I, L, D, R)) (x y : Int32) : qv_pp w (fun I L D R => fX11_share w I L D R x y) (fun I L D R => fX12_share w I L D R x y) (I, L, D, R) := by
  cases hx : qc_inb x 10
  · exact qv_same h (-1) (by simp only [fX11_share, fx_isColumn, hx, qc_bds, qf_ff]) (by simp only [fX12_share, fm_isColumn, hx, qc_bds, qf_ff])
  · cases hy : qc_inb y 10
    · exact qv_same h (-1) (by simp only [fX11_share, fx_isColumn, hx, hy, qc_bds, qf_ff, if_true]) (by simp only [fX12_share, fm_isColumn, hx, hy, qc_bds, qf_ff, if_true])
    · obtain ⟨c, hc, -, hc2⟩ := qi_k hx (by decide)
      obtain ⟨d, hd, -, hd2⟩ := qi_k hy (by decide)
      refine ⟨1, qc_u I 258 c (I 258 d), L, D, R, qc_u (qc_u I 258 c (I 258 d)) 292 c (I 292 d), L, D, R, ?_, ?_, fun _ => ?_⟩
      · simp only [fX11_share, fX1_unite, fx_isColumn, hx, hy, qc_bds, if_true, qc_gdt, hc2, hd2]
      · simp only [fX12_share, fm_isColumn, hx, hy, qc_bds, if_true, qc_gdt, hc2, hd2]
        rw [qc_u_off I _ (show 292 ≠ 258 by decide)]
      · refine Inv.cols h (fun a ha => ?_) (fun _ _ => rfl) (fun _ _ => rfl) ?_
        · rw [qc_u_off _ _ (fun q => by rw [q] at ha; cases ha), qc_u_off _ _ (fun q => by rw [q] at ha; cases ha)]
        · have := qi_share h.2.2.2.1 hc hd
          simp only [qc_u_off _ _ (show 258 ≠ 292 by decide), qi_u_on, qc_u_off _ _ (show 292 ≠ 258 by decide), qc_u_off _ _ (show 259 ≠ 292 by decide), qc_u_off _ _ (show 259 ≠ 258 by decide), qc_u_off _ _ (show 293 ≠ 292 by decide), qc_u_off _ _ (show 293 ≠ 258 by decide), qc_u_off _ _ (show 260 ≠ 292 by decide), qc_u_off _ _ (show 260 ≠ 258 by decide), qc_u_off _ _ (show 294 ≠ 292 by decide), qc_u_off _ _ (show 294 ≠ 258 by decide)]
          exact this
theorem pp_drop (h : Inv w (I, L, D, R)) (x : Int32) : qv_pp w (fun I L D R => fX11_drop w I L D R x) (fun I L D R => fX12_drop w I L D R x) (I, L, D, R) := by
  cases hx : qc_inb x 10
  · exact qv_same h (-1) (by simp only [fX11_drop, fx_isColumn, hx, qc_bds, qf_ff]) (by simp only [fX12_drop, fm_isColumn, hx, qc_bds, qf_ff])
  · obtain ⟨c, hc, -, hc2⟩ := qi_k hx (by decide)
    have hcc := h.2.2.2.1
    have hi : I 258 c = -1 ↔ I 292 c = -1 := qi_none_iff hcc hc
    have hfin : Inv w (qc_u (qc_u I 258 c (-1)) 292 c (-1), L, D, R) := by
      refine Inv.cols h (fun a ha => ?_) (fun _ _ => rfl) (fun _ _ => rfl) ?_
      · rw [qc_u_off _ _ (fun q => by rw [q] at ha; cases ha), qc_u_off _ _ (fun q => by rw [q] at ha; cases ha)]
      · have := qi_drop hcc hc
        simp only [qc_u_off _ _ (show 258 ≠ 292 by decide), qi_u_on, qc_u_off _ _ (show 292 ≠ 258 by decide), qc_u_off _ _ (show 259 ≠ 292 by decide), qc_u_off _ _ (show 259 ≠ 258 by decide), qc_u_off _ _ (show 293 ≠ 292 by decide), qc_u_off _ _ (show 293 ≠ 258 by decide), qc_u_off _ _ (show 260 ≠ 292 by decide), qc_u_off _ _ (show 260 ≠ 258 by decide), qc_u_off _ _ (show 294 ≠ 292 by decide), qc_u_off _ _ (show 294 ≠ 258 by decide)]
        exact this
    by_cases hr : I 258 c = -1
    · refine ⟨0, qc_u I 258 c (-1), L, D, R, qc_u (qc_u I 258 c (-1)) 292 c (-1), L, D, R, ?_, ?_, fun _ => hfin⟩
      · simp only [fX11_drop, fX1_lose, fX1_lose_b15, fx_isColumn, hx, qc_bds, if_true, qc_gdt, hc2, hr]
        rfl
      · simp only [fX12_drop, fX12_drop_b24, fm_isColumn, hx, qc_bds, if_true, qc_gdt, hc2, qc_u_off I _ (show 292 ≠ 258 by decide), hi.mp hr]
    · refine ⟨1, qc_u I 258 c (-1), L, D, R, qc_u (qc_u I 258 c (-1)) 292 c (-1), L, D, R, ?_, ?_, fun _ => hfin⟩
      · simp only [fX11_drop, fX1_lose, fX1_lose_b15, fx_isColumn, hx, qc_bds, if_true, qc_gdt, hc2, hr, if_false]
        rfl
      · simp only [fX12_drop, fX12_drop_b24, fm_isColumn, hx, qc_bds, if_true, qc_gdt, hc2, qc_u_off I _ (show 292 ≠ 258 by decide), if_false]
        rw [if_neg (fun q => hr (hi.mpr q))]
theorem pp_end (h : Inv w (I, L, D, R)) (x : Int32) : qv_pp w (fun I L D R => fX11_end w I L D R x) (fun I L D R => fX12_end w I L D R x) (I, L, D, R) := by
  obtain ⟨t1, t2, t3⟩ := h.2.2.2.2.1
  obtain ⟨n, hn, hn2, -⟩ := qi_k t2 (by decide)
  have hn3 : I 291 7 = nI n := t1.symm.trans hn2
  have hn2' : I 265 1 = nI n := hn2
  have hx1 : fX11_end w I L D R x = if qc_inb x (n + 1) = true then some (1, qc_u I 265 1 x, L, D, R) else some (-1, I, L, D, R) := by
    unfold fX11_end fX10_cut
    simp only [hn2', Int32.lt_iff_toInt_lt, Int32.le_iff_toInt_le, show (0 : Int32).toInt = 0 from rfl, nI_toInt (show n < 2 ^ 31 by omega)]
    by_cases h1 : x.toInt < 0
    · rw [if_pos h1, qi_inbF (by omega)]
      rfl
    · rw [if_neg h1]
      by_cases h2 : x.toInt ≤ n
      · rw [if_pos h2, (qi_inb_iff x (n + 1)).mpr (by omega)]
        rfl
      · rw [if_neg h2, qi_inbF (by omega)]
        rfl
  have hm1 : ∀ J, J 291 7 = nI n → fX12_end w J L D R x = if qc_inb x (n + 1) = true then some (1, qc_u J 291 7 x, L, D, R) else some (-1, J, L, D, R) := by
    intro J hJ
    unfold fX12_end
    rw [hJ, fm_in (n + 1) (by rw [Int32.toInt_toInt64, nI_toInt (by omega)]; omega)]
    rfl
  cases hb : qc_inb x (n + 1)
  · rw [hb] at hx1 hm1
    exact qv_same h (-1) hx1 (hm1 I hn3)
  · rw [hb] at hx1 hm1
    refine ⟨1, _, _, _, _, _, _, _, _, hx1, hm1 _ (by rw [qc_u_off _ _ (show 291 ≠ 265 by decide)]; exact hn3), fun _ => ?_⟩
    refine Inv.tape h (fun a h1 _ _ h4 => by rw [qc_u_off _ _ h4, qc_u_off _ _ h1]) (fun k hk => by rw [qc_u_ne _ _ (Or.inr hk), qc_u_off _ _ (show 291 ≠ 265 by decide)]) ⟨?_, ?_, fun k hk => ?_⟩
    · rw [qc_u_off _ _ (show 265 ≠ 291 by decide), qc_u_at, qc_u_at]
    · rw [qc_u_off _ _ (show 265 ≠ 291 by decide), qc_u_at]
      have := (qi_inb_iff x (n + 1)).mp hb
      exact (qi_inb_iff x 401).mpr (by omega)
    · rw [qc_u_off _ _ (show 266 ≠ 291 by decide), qc_u_off _ _ (show 266 ≠ 265 by decide), qc_u_off _ _ (show 297 ≠ 291 by decide), qc_u_off _ _ (show 297 ≠ 265 by decide)]
      exact t3 k hk
theorem pp_hit (h : Inv w (I, L, D, R)) (x : Int32) : qv_pp w (fun I L D R => fX11_hit w I L D R x) (fun I L D R => fX12_hit_ w I L D R x) (I, L, D, R) := by
  obtain ⟨b0, b1, b2, b3, b4, b5, b6, hh, b7, b8, b9, -⟩ := h.2.2.2.2.2.2.2.2
  have b7' : I 280 5 = nI hh := b7
  have b5' : I 291 81 = nI hh := b5.symm.trans b7
  have e1 : fX3_isHit w I L D R x = some (qc_inb x hh, I, L, D, R) := by
    unfold fX3_isHit
    simp only [b7', Int32.lt_iff_toInt_lt, Int32.le_iff_toInt_le, show (0 : Int32).toInt = 0 from rfl, nI_toInt (show hh < 2 ^ 31 by omega)]
    by_cases h1 : x.toInt < 0
    · rw [if_pos h1, qi_inbF (by omega)]
    · rw [if_neg h1]
      by_cases h2 : x.toInt < hh
      · simp only [h2, if_true, show ¬ (hh : Int) ≤ x.toInt by omega, if_false]
        rw [(qi_inb_iff x hh).mpr (by omega)]
      · simp only [h2, if_false, show (hh : Int) ≤ x.toInt by omega, if_true]
        rw [qi_inbF (by omega)]
  have e2 : fX12_in w I L D R (Int32.toInt64 x) 0 (Int32.toInt64 (I 291 81 - 1)) = some (qc_inb x hh, I, L, D, R) := fm_in hh (qi_m1 b5' (by omega))
  cases hb : qc_inb x hh
  · exact qv_same h (-1) (by simp only [fX11_hit, e1, hb, qc_bds, qf_ff]) (by simp only [fX12_hit_, e2, hb, qc_bds, qf_ff])
  · obtain ⟨k, hk, -, hk2⟩ := qi_k hb (by omega)
    have hb2 : qc_inb x 16 = true := (qi_inb_iff x 16).mpr (by have := (qi_inb_iff x hh).mp hb; omega)
    refine qv_same h (I 281 k) (by simp only [fX11_hit, e1, hb, hb2, hk2, qc_bds, if_true, qc_gdt]) ?_
    simp only [fX12_hit_, e2, hb, hb2, hk2, qc_bds, if_true, qc_gdt]
    rw [show I 281 k = I 333 k from (b9 k hk).1]
end
