/-! run, as a pair -/
section
variable {w : qcW} {I : qTI} {L : qTL} {D : qTD} {R : qTR}
theorem pp_run (h : Inv w (I, L, D, R)) (x : Int32) (hfX : ∀ {r : Int32} {M' : qcM}, fX11_run w I L D R x = some (r, M') → qc_fm qcSX (I, L, D, R) M') (hfM : ∀ {I : qTI} {L : qTL} {D : qTD} {R : qTR} {r : Int32} {M' : qcM}, qc_FR R → fX12_run w I L D R x = some (r, M') → qc_fm qcSM (I, L, D, R) M') :
    qv_pp w (fun I L D R => fX11_run w I L D R x) (fun I L D R => fX12_run w I L D R x) (I, L, D, R) := by
  obtain ⟨n, b1, b2, b3, b4, b5, b6⟩ := qq_find h x
  by_cases hx : qc_inb x n = true
  · obtain ⟨q, hqn, hxq, -⟩ := qi_k hx (by omega)
    obtain ⟨c1, hB⟩ := b6 q hxq hqn
    have hq : q < 12 := by omega
    obtain ⟨a1, a2, ⟨a3, a3'⟩, a4, a5, a6, a7, ⟨a8, n', a9, a10, a11⟩, a12⟩ := id h
    obtain ⟨ob, o1, o2, -⟩ := qi_k a3' (by decide)
    have o2' : I 256 7 = nI ob := o2
    have hio : qc_io w (R 290 q) 6 = true := (qx_cds hB).choose_spec.choose_spec.choose_spec.choose_spec.choose_spec.2.2.1.1
    have h338 : 338 ≤ R 290 q := (qx_cds hB).choose_spec.choose_spec.choose_spec.choose_spec.choose_spec.2.1
    have n255 : ¬ Nat.beq (R 290 q) 255 = true := fun z => by have := Nat.eq_of_beq_eq_true z; omega
    have hX : fX11_run w I L D R x = fX4_go w I L D R (R 290 q) (nI q) (nI ob) := by
      unfold fX11_run
      rw [c1, qc_bds, if_neg n255, hio, qc_gdt, o2', hxq]
      cases fX4_go w I L D R (R 290 q) (nI q) (nI ob) <;> rfl
    rw [hx] at b4
    obtain ⟨r, Ce, Se0, e1, -, hE0⟩ := qx_run (w := w) (C := (I, L, D, R)) (S := (I, L, D, R)) (ob := ob) hq (by omega) hB (fun a _ => ⟨rfl, rfl, rfl⟩) a4 (fun k hk => a7 k hk) (a3.symm.trans o2) (by rw [← hxq]; exact b4)
    have e1' := hX.trans e1
    obtain ⟨fx1, fx2⟩ := hfX e1'
    have f291 : ∀ a, 291 ≤ a → Ce.1 a = I a ∧ Ce.2.1 a = L a ∧ Ce.2.2.1 a = D a ∧ Ce.2.2.2 a = R a := fun a ha => fx2 a (by
      unfold qcSX
      exact Bool.eq_false_iff.mpr (fun z => by have := (Nat.blt_eq.mp z); omega))
    have hMQ : fX12_isQuery w Ce.1 Ce.2.1 Ce.2.2.1 Ce.2.2.2 (nI q) = some (true, Ce) := by
      unfold fX12_isQuery
      rw [(f291 291 (by decide)).1, fm_in n (qi_m1 b3 (by omega)), qi_inbN hqn (by omega)]
      rfl
    have hcols2 : qx_cols (I, L, D, R) Ce := by
      have := a4
      unfold qx_cols
      rw [(f291 292 (by decide)).1, (f291 293 (by decide)).1, (f291 294 (by decide)).1, (f291 295 (by decide)).2.1, (f291 296 (by decide)).2.2.1]
      exact this
    obtain ⟨r2, Ce2, Se, d1, d2, d3⟩ := qx_run (w := w) (C := (I, L, D, R)) (S := Ce) (ob := ob) hq (by omega) hB (fun a ha => ⟨(f291 a ha).1, (f291 a ha).2.1, (f291 a ha).2.2.1⟩) hcols2 (fun k hk => by rw [(f291 329 (by decide)).2.2.1]; exact a7 k hk) (by rw [(f291 291 (by decide)).1]; exact a3.symm.trans o2) hMQ
    have hrr := e1.symm.trans d1
    obtain ⟨rfl, rfl⟩ : r = r2 ∧ Ce = Ce2 := by
      have := Option.some.inj hrr
      exact ⟨congrArg Prod.fst this, congrArg Prod.snd this⟩
    rw [← hxq] at d2
    obtain ⟨fm1, fm2⟩ := hfM (fx1 a2) d2
    have s291 : ∀ a, a < 291 → Se.1 a = Ce.1 a ∧ Se.2.1 a = Ce.2.1 a ∧ Se.2.2.1 a = Ce.2.2.1 a ∧ Se.2.2.2 a = Ce.2.2.2 a := fun a ha => fm2 a (by
      unfold qcSM
      exact Bool.eq_false_iff.mpr (fun z => by have := (Nat.ble_eq.mp (Bool.and_eq_true_iff.mp z).1); omega))
    obtain ⟨E1, E2, E3, ⟨E4, E5, E6⟩, E7, E8, E9⟩ := d3
    refine ⟨r, Ce.1, Ce.2.1, Ce.2.2.1, Ce.2.2.2, Se.1, Se.2.1, Se.2.2.1, Se.2.2.2, e1', d2, fun hR2 => ?_⟩
    have tC : ∀ a k, a < 291 → a ≠ 257 → a ≠ 280 → a ≠ 281 → a ≠ 286 → a ≠ 287 → Se.1 a k = I a k := fun a k y1 y2 y3 y4 y5 y6 => by
      rw [(s291 a y1).1]
      exact E4 a k y2 y3 y4 y5 y6
    have tS : ∀ a k, 291 ≤ a → ¬ (a = 291 ∧ 67 ≤ k) → a ≠ 330 → a ≠ 333 → Se.1 a k = I a k := fun a k y1 y2 y3 y4 => by
      rw [E7 a k y2 y3 y4, (f291 a y1).1]
    have tC' : ∀ a, a < 291 → a ≠ 257 → a ≠ 280 → a ≠ 281 → a ≠ 286 → a ≠ 287 → Se.1 a = I a := fun a y1 y2 y3 y4 y5 y6 => funext fun k => tC a k y1 y2 y3 y4 y5 y6
    have tS' : ∀ a, 292 ≤ a → a ≠ 330 → a ≠ 333 → Se.1 a = I a := fun a y1 y3 y4 => funext fun k => tS a k (by omega) (by omega) y3 y4
    refine ⟨a1, hR2, ⟨?_, ?_⟩, ?_, ⟨?_, ?_, fun k hk => ?_⟩, ?_, E2, ⟨?_, n', ?_, a10, fun q' hq' => ?_⟩, ?_⟩
    · dsimp only
      rw [tC 256 7 (by decide) (by decide) (by decide) (by decide) (by decide) (by decide), tS 291 0 (by decide) (by omega) (by decide) (by decide)]
      exact a3
    · dsimp only
      rw [tC 256 7 (by decide) (by decide) (by decide) (by decide) (by decide) (by decide)]
      exact a3'
    · unfold qx_cols at E1
      dsimp only
      rw [(s291 258 (by decide)).1, (s291 259 (by decide)).1, (s291 260 (by decide)).1, (s291 261 (by decide)).2.1, (s291 262 (by decide)).2.2.1]
      exact E1
    · dsimp only
      rw [tC 265 1 (by decide) (by decide) (by decide) (by decide) (by decide) (by decide), tS 291 7 (by decide) (by omega) (by decide) (by decide)]
      exact a5.1
    · dsimp only
      rw [tC 265 1 (by decide) (by decide) (by decide) (by decide) (by decide) (by decide)]
      exact a5.2.1
    · dsimp only
      rw [tC 266 k (by decide) (by decide) (by decide) (by decide) (by decide) (by decide), tS 297 k (by decide) (by omega) (by decide) (by decide)]
      exact a5.2.2 k hk
    · dsimp only
      rw [tC 256 8 (by decide) (by decide) (by decide) (by decide) (by decide) (by decide), tS 291 64 (by decide) (by omega) (by decide) (by decide)]
      exact a6
    · dsimp only
      rw [tC 256 6 (by decide) (by decide) (by decide) (by decide) (by decide) (by decide), tS 291 40 (by decide) (by omega) (by decide) (by decide)]
      exact a8
    · dsimp only
      rw [tC 256 6 (by decide) (by decide) (by decide) (by decide) (by decide) (by decide)]
      exact a9
    · have vis : ∀ a, qv_vis a = true → a = 290 ∨ a = 305 ∨ (315 ≤ a ∧ a ≤ 323) ∨ 338 ≤ a := fun a ha => by
        unfold qv_vis at ha
        simp only [Bool.or_eq_true, Bool.and_eq_true, Nat.ble_eq, Nat.beq_eq] at ha
        omega
      have v1 : qv 0 Se.1 = qv 0 I := by
        funext a k
        unfold qv
        split
        · rename_i hv
          rcases vis a hv with y | y | y | y
          · exact tC a k (by omega) (by omega) (by omega) (by omega) (by omega) (by omega)
          all_goals exact tS a k (by omega) (by omega) (by omega) (by omega)
        · rfl
      have v2 : qv 0 Se.2.2.1 = qv 0 D := by
        funext a k
        unfold qv
        split
        · rename_i hv
          rcases vis a hv with y | y | y | y
          · rw [(s291 a (by omega)).2.2.1, E6 a (by omega) (by omega) (by omega) (by omega) (by omega)]
          all_goals rw [E8 a (by omega) (by omega) (by omega) (by omega) (by omega), (f291 a (by omega)).2.2.1]
        · rfl
      have v3 : qv 0 Se.2.2.2 = qv 0 R := by
        funext a k
        unfold qv
        split
        · rename_i hv
          rw [E9, E5 a (by rcases vis a hv with y | y | y | y <;> omega) (by rcases vis a hv with y | y | y | y <;> omega)]
        · rfl
      show qq_B w (qv 0 Se.1) (qv 0 Se.2.2.1) (qv 0 Se.2.2.2) q'
      rw [v1, v2, v3]
      exact a11 q' hq'
    · have hn : nI q < I 256 6 := by rw [b2]; exact (qi_lt (by omega) (by omega)).mpr hqn
      have := E3 _ hn
      unfold qx_L at this
      dsimp only
      rw [tC 256 6 (by decide) (by decide) (by decide) (by decide) (by decide) (by decide), (s291 280 (by decide)).1, (s291 280 (by decide)).2.2.2, (s291 281 (by decide)).1, (s291 282 (by decide)).2.2.1, (s291 283 (by decide)).2.1, (s291 284 (by decide)).2.1, (s291 285 (by decide)).2.2.1]
      exact this
  · rw [Bool.not_eq_true] at hx
    rw [hx] at b4
    refine ⟨-1, I, L, D, R, I, L, D, R, ?_, ?_, fun _ => h⟩
    · show fX11_run w I L D R x = _
      unfold fX11_run
      rw [b5 hx, qc_bds, if_pos (show Nat.beq 255 255 = true from rfl)]
    · show fX12_run w I L D R x = _
      unfold fX12_run
      rw [b4, qc_bds, if_neg (by decide)]
end
