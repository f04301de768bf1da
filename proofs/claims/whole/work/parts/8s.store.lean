/-! a cell set -/
section
variable {w : qcW} {Ic : qTI} {Lc : qTL} {Dc : qTD} {Rc : qTR} {Ir : qTI} {Lr : qTL} {Dr : qTD} {Rr : qTR} {pc : Nat → Int64} {xc : Nat → UInt64} {pm : Nat → Int64} {xm : Nat → UInt64} {r : List Nat}
theorem qp_cf_0 {lr l : Int32} {sz : Nat} {v : Int64} (h : qp_cf lr l sz v = 0) : lr = l ∧ 0 ≤ v.toInt ∧ v.toInt < sz := by
  unfold qp_cf at h
  by_cases q : lr = l
  · rw [if_pos q] at h
    by_cases q2 : 0 ≤ v.toInt ∧ v.toInt < sz
    · exact ⟨q, q2⟩
    · rw [if_neg q2] at h
      exact absurd h (by decide)
  · rw [if_neg q] at h
    exact absurd h (by decide)
theorem qp_cf_n {lr l : Int32} {sz : Nat} {v : Int64} (h : ¬ qp_cf lr l sz v = 0) : 0 ≤ (qp_cf lr l sz v).toInt ∧ ¬ qp_cf lr l sz v ≤ 0 := by
  revert h
  unfold qp_cf
  split
  · split
    · intro q; exact absurd rfl q
    · intro _; decide
  · intro _; decide
theorem qp_store {l c m : Nat} (hl8 : l < 8) (hc : c < 10) (hcc : qi_cols (Ic 258) (Ir 292) (Ic 259) (Ir 293) (Ic 260) (Ir 294) (Lc 261) (Lr 295) (Dc 262) (Dr 296)) (hfl : Ir 291 69 = 0) (hm : m < 16) (h73 : Ir 291 73 = nI m) (hl : r.length + 2 ≤ 24) (h : qp_R (qw_kd l :: 1 :: r) pc xc pm xm) :
    (∃ f : Int32, f ≠ 0 ∧ 0 ≤ f.toInt ∧ fX4_step w (qc_u Ic 287 2 (nI (r.length + 2))) (qi_rr Lc 288 pc) (qi_rr Dc 289 xc) Rc (nI (20 + l)) (nI c) = some (f, qc_u Ic 287 2 (nI r.length), qi_rr Lc 288 pc, qi_rr Dc 289 xc, Rc) ∧
      fX12_does w (qc_u Ir 291 67 (nI (r.length + 2))) (qi_rr Lr 328 pm) (qi_rr Dr 329 xm) Rr (nI (20 + l)) (nI c) = some ((), qc_u (qc_u Ir 291 67 (nI r.length)) 291 69 f, qi_rr Lr 328 pm, qi_rr Dr 329 xm, Rr)) ∨
    (∃ (i j t : Nat) (va : Int64) (vd : UInt64), i < 10 ∧ j < 11 ∧ t < 16 ∧ Ic 258 c = nI i ∧ Ir 292 c = nI j ∧ qi_co (Ic 259 i) va vd ∧
      fX4_step w (qc_u Ic 287 2 (nI (r.length + 2))) (qi_rr Lc 288 pc) (qi_rr Dc 289 xc) Rc (nI (20 + l)) (nI c) = some (0, qc_u Ic 287 2 (nI r.length), qi_rr (qi_rr Lc 288 pc) 261 (qi_up (Lc 261) (i * 16 + t) va), qi_rr (qi_rr Dc 289 xc) 262 (qi_up (Dc 262) (i * 16 + t) vd), Rc) ∧
      fX12_does w (qc_u Ir 291 67 (nI (r.length + 2))) (qi_rr Lr 328 pm) (qi_rr Dr 329 xm) Rr (nI (20 + l)) (nI c) = some ((), qc_u (qc_u (qc_u Ir 291 67 (nI r.length)) 330 m (nI (j * 16 + t))) 291 73 (nI (m + 1)), qi_rr (qi_rr (qi_rr Lr 328 pm) 331 (qi_up (Lr 331) m (Lr 295 (j * 16 + t)))) 295 (qi_up (Lr 295) (j * 16 + t) va), qi_rr (qi_rr (qi_rr Dr 329 xm) 332 (qi_up (Dr 332) m (Dr 296 (j * 16 + t)))) 296 (qi_up (Dr 296) (j * 16 + t) vd), Rr)) := by
  obtain ⟨v2, v1, hR⟩ := h
  obtain ⟨e1, g1⟩ := v1.1 (by decide)
  have g1 := g1.2 rfl
  have v2 : qp_V (qw_kd l) (pc (r.length + 1)) (xc (r.length + 1)) (pm (r.length + 1)) (xm (r.length + 1)) := v2
  have eX : fX4_step w (qc_u Ic 287 2 (nI (r.length + 2))) (qi_rr Lc 288 pc) (qi_rr Dc 289 xc) Rc (nI (20 + l)) (nI c) = (qc_bd (fX4_store w (qc_u Ic 287 2 (nI (r.length + 2))) (qi_rr Lc 288 pc) (qi_rr Dc 289 xc) Rc (nI l) (nI c)) fun r29 I29 L29 D29 R29 => some (r29, I29, L29, D29, R29)) := by
    rcases (show l = 0 ∨ l = 1 ∨ l = 2 ∨ l = 3 ∨ l = 4 ∨ l = 5 ∨ l = 6 ∨ l = 7 by omega) with rfl | rfl | rfl | rfl | rfl | rfl | rfl | rfl <;> rfl
  have eM : fX12_does w (qc_u Ir 291 67 (nI (r.length + 2))) (qi_rr Lr 328 pm) (qi_rr Dr 329 xm) Rr (nI (20 + l)) (nI c) = (qc_bd (fX12_stores w (qc_u Ir 291 67 (nI (r.length + 2))) (qi_rr Lr 328 pm) (qi_rr Dr 329 xm) Rr (nI l) (nI c)) fun r I L D R => some ((), I, L, D, R)) := by
    rcases (show l = 0 ∨ l = 1 ∨ l = 2 ∨ l = 3 ∨ l = 4 ∨ l = 5 ∨ l = 6 ∨ l = 7 by omega) with rfl | rfl | rfl | rfl | rfl | rfl | rfl | rfl <;> rfl
  have hX : fX4_store w (qc_u Ic 287 2 (nI (r.length + 2))) (qi_rr Lc 288 pc) (qi_rr Dc 289 xc) Rc (nI l) (nI c) = (qc_bd (fX1_cellFault w (qc_u Ic 287 2 (nI r.length)) (qi_rr Lc 288 pc) (qi_rr Dc 289 xc) Rc (nI c) (nI l) (pc r.length)) fun r2 I2 L2 D2 R2 => if r2 = 0 then (if l < 6 then (qc_bd (fX1_setWhole w I2 L2 D2 R2 (nI c) (Int64.toInt32 (pc r.length)) (pc (r.length + 1))) fun r5 I5 L5 D5 R5 => some ((0 : Int32), I5, L5, D5, R5)) else (qc_bd (fX1_setReal w I2 L2 D2 R2 (nI c) (Int64.toInt32 (pc r.length)) (xc (r.length + 1))) fun r5 I5 L5 D5 R5 => some ((0 : Int32), I5, L5, D5, R5))) else (some (r2, I2, L2, D2, R2))) := by
    unfold fX4_store fX4_store_b11 fX4_store_b27 fX4_store_b44
    by_cases l6 : l < 6
    · have hlt : nI l < (6 : Int32) := (qi_lt (b := 6) (by omega) (by decide)).mpr l6
      rw [if_pos hlt, if_pos rfl, cx_take (n := r.length + 1) (by omega), qc_bds, if_pos rfl, cx_take (by omega), qc_bds]
      simp only [if_pos l6, if_true]
    · have hlt : ¬ nI l < (6 : Int32) := fun q => l6 ((qi_lt (b := 6) (by omega) (by decide)).mp q)
      rw [if_neg hlt, if_neg (by decide), if_neg (by decide), cx_takeR (n := r.length + 1) (by omega), qc_bds, cx_take (by omega), qc_bds]
      simp only [if_neg l6, show ¬ (1 : Int32) = 0 by decide, if_false]
  obtain ⟨b0, b1, c0, c1, d2, d1⟩ := mx_b (n := r.length) hl
  unfold fX12_stores at eM
  simp only [qc_u_at, d2, qc_uu, b1, qc_gdt, c1, qi_rr_on] at eM
  rw [hX] at eX
  rcases hcc.1 c hc with ⟨a1, a2⟩ | ⟨i, j, a1, a2, a3, a4, a5, a6, a7, a8, a9⟩
  · rw [fx_cellF0 hc (by rw [qc_u_off _ _ (show 258 ≠ 287 by decide)]; exact a1), qc_bds, if_neg (show ¬ (1 : Int32) = 0 by decide), qc_bds] at eX
    rw [fm_cellAt0 hc (by omega) a2, qc_bds, qc_u_at, if_neg (show ¬ (1 : Int32) ≤ 0 by decide), qc_bds] at eM
    exact Or.inl ⟨1, by decide, by decide, eX, eM⟩
  · obtain ⟨sz, hsz, hsz2, -⟩ := qi_k a8 (by decide)
    have hszM : Ir 294 j = nI sz := a7.symm.trans hsz2
    have hF : fX1_cellFault w (qc_u Ic 287 2 (nI r.length)) (qi_rr Lc 288 pc) (qi_rr Dc 289 xc) Rc (nI c) (nI l) (pc r.length) = some (qp_cf (Ic 259 i) (nI l) sz (pc r.length), qc_u Ic 287 2 (nI r.length), qi_rr Lc 288 pc, qi_rr Dc 289 xc, Rc) := by
      rw [fx_cellFault hc a3 (by rw [qc_u_off _ _ (show 258 ≠ 287 by decide)]; exact a1), qc_u_off _ _ (show 259 ≠ 287 by decide), qc_u_off _ _ (show 260 ≠ 287 by decide), hsz2, nI_toInt (by omega)]
      rfl
    rw [hF, qc_bds] at eX
    rw [fm_cellAt1 hc a4 (by omega) a2 hszM (by omega) hfl, ← e1, ← a5] at eM
    by_cases hcf : qp_cf (Ic 259 i) (nI l) sz (pc r.length) = 0
    · rw [if_pos hcf] at eX eM
      obtain ⟨hlane, hix⟩ := qp_cf_0 hcf
      obtain ⟨t, ht, ht2⟩ := qi_ix g1 (by omega) hix
      obtain ⟨o1, o2, o3⟩ := a9 t (by omega)
      have e16 : nI i * 16 + nI t = nI (i * 16 + t) := by rw [show (16 : Int32) = nI 16 by decide, qi_mul, nI_add]
      have e16m : (16 : Int32) * nI j + nI t = nI (j * 16 + t) := by rw [show (16 : Int32) = nI 16 by decide, qi_mul, nI_add, Nat.mul_comm]
      have q1 : qc_inb (nI (i * 16 + t)) 160 = true := qi_inbN (by omega) (by decide)
      have q2 : qc_inb (nI (j * 16 + t)) 176 = true := qi_inbN (by omega) (by decide)
      have q3 : qc_inb (nI m) 16 = true := qi_inbN hm (by decide)
      rw [qc_bds, qc_u_ne _ _ (Or.inr (show 69 ≠ 67 by decide)), hfl, if_pos (Int32.le_refl _), ht2, e16m, q2, qc_u_ne _ _ (Or.inr (show 73 ≠ 67 by decide)), h73, q3] at eM
      simp only [qc_gdt, nI_clamp (show m < 2 ^ 31 by omega), nI_clamp (show j * 16 + t < 2 ^ 31 by omega)] at eM
      rw [qc_u_ne _ _ (Or.inl (show 291 ≠ 330 by decide)), qc_u_ne _ _ (Or.inr (show 73 ≠ 67 by decide)), h73, q3] at eM
      simp only [qc_gdt, nI_clamp (show m < 2 ^ 31 by omega), qi_s1, qi_rr_off _ _ (show 295 ≠ 328 by decide), qi_rr_off _ _ (show 296 ≠ 329 by decide)] at eM
      unfold fX1_setWhole fX1_setReal at eX
      rw [qc_u_off _ _ (show 258 ≠ 287 by decide), nI_clamp (show c < 2 ^ 31 by omega), a1, ht2, e16, q1, qi_inbN hc (by decide)] at eX
      simp only [qc_gdt, qc_bds, nI_clamp (show i * 16 + t < 2 ^ 31 by omega)] at eX
      by_cases l6 : l < 6
      · have hle : nI l ≤ (5 : Int32) := (qi_le (b := 5) (by omega) (by decide)).mpr (by omega)
        rw [if_pos l6, qc_bds, qi_rr2 _ 261, qi_rr_off _ _ (show 261 ≠ 288 by decide)] at eX
        rw [if_pos hle, qc_bds, qi_rr2 _ 331, qi_rr_off _ _ (show 331 ≠ 328 by decide), qi_rr2 _ 295, qi_rr_off _ _ (show 295 ≠ 331 by decide), qi_rr_off _ _ (show 295 ≠ 328 by decide), qi_rr2 _ 332, qi_rr_off _ _ (show 332 ≠ 329 by decide)] at eM
        have hkd : qw_kd l ≤ 2 := by
          unfold qw_kd
          split
          · omega
          · split <;> omega
        obtain ⟨w1, w2⟩ := v2.1 hkd
        refine Or.inr ⟨i, j, t, pc (r.length + 1), Dc 262 (i * 16 + t), a3, a4, by omega, a1, a2, ⟨fun q => ?_, fun q => ?_, o3.2.2.1, o3.2.2.2⟩, ?_, ?_⟩
        · have hl0 : l = 0 := qi_nI_inj (by omega) (by decide) (hlane.symm.trans q)
          exact w2.1 (by rw [hl0]; rfl)
        · have hl5 : l < 5 := (qi_lt (b := 5) (by omega) (by decide)).mp (by rw [← hlane]; exact q)
          by_cases hl0 : l = 0
          · rcases w2.1 (by rw [hl0]; rfl) with z | z
            · rw [z]; decide
            · rw [z]; decide
          · exact w2.2 (by unfold qw_kd; rw [if_neg hl0, if_pos hl5])
        · rw [eX, qi_up_self, show Dc 262 = qi_rr Dc 289 xc 262 from (qi_rr_off _ _ (by decide)).symm, qi_rr_0]
        · rw [eM, o2, qi_up_self, ← w1, show qi_rr (qi_rr (qi_rr Dr 329 xm) 332 (qi_up (Dr 332) m (Dr 296 (j * 16 + t)))) 296 (Dr 296) = qi_rr (qi_rr Dr 329 xm) 332 (qi_up (Dr 332) m (Dr 296 (j * 16 + t))) from ?_]
          have z : Dr 296 = qi_rr (qi_rr Dr 329 xm) 332 (qi_up (Dr 332) m (Dr 296 (j * 16 + t))) 296 := by rw [qi_rr_off _ _ (by decide), qi_rr_off _ _ (by decide)]
          exact (congrArg (qi_rr _ 296) z).trans (qi_rr_0 _ _)
      · have hle : ¬ nI l ≤ (5 : Int32) := fun q => by have := (qi_le (b := 5) (by omega) (by decide)).mp q; omega
        rw [if_neg l6, qc_bds, qi_rr2 _ 262, qi_rr_off _ _ (show 262 ≠ 289 by decide)] at eX
        rw [if_neg hle, qc_bds, qi_rr2 _ 331, qi_rr_off _ _ (show 331 ≠ 328 by decide), qi_rr2 _ 296, qi_rr2 _ 332, qi_rr_off _ _ (show 296 ≠ 332 by decide), qi_rr_off _ _ (show 296 ≠ 329 by decide), qi_rr_off _ _ (show 332 ≠ 329 by decide)] at eM
        have hkd : qw_kd l = l - 3 := by
          unfold qw_kd
          rw [if_neg (by omega), if_neg (by omega)]
        obtain ⟨w1, w2, w3⟩ := v2.2 (by omega)
        refine Or.inr ⟨i, j, t, Lc 261 (i * 16 + t), xc (r.length + 1), a3, a4, by omega, a1, a2, ⟨o3.1, o3.2.1, (qf_n64 _).mpr w2, fun q => ?_⟩, ?_, ?_⟩
        · have hl0 : l = 6 := qi_nI_inj (by omega) (by decide) (hlane.symm.trans q)
          exact w3 (by omega)
        · rw [eX, qi_up_self, show Lc 261 = qi_rr Lc 288 pc 261 from (qi_rr_off _ _ (by decide)).symm, qi_rr_0]
        · rw [eM, o1, qi_up_self, ← w1, show qi_rr (qi_rr (qi_rr Lr 328 pm) 331 (qi_up (Lr 331) m (Lr 295 (j * 16 + t)))) 295 (Lr 295) = qi_rr (qi_rr Lr 328 pm) 331 (qi_up (Lr 331) m (Lr 295 (j * 16 + t))) from ?_]
          have z : Lr 295 = qi_rr (qi_rr Lr 328 pm) 331 (qi_up (Lr 331) m (Lr 295 (j * 16 + t))) 295 := by rw [qi_rr_off _ _ (by decide), qi_rr_off _ _ (by decide)]
          exact (congrArg (qi_rr _ 295) z).trans (qi_rr_0 _ _)
    · rw [if_neg hcf] at eX eM
      obtain ⟨h1, h2⟩ := qp_cf_n hcf
      rw [qc_bds] at eX
      rw [qc_bds, qc_u_at, if_neg h2, qc_bds] at eM
      exact Or.inl ⟨_, hcf, h1, eX, eM⟩
end
section
variable {w : qcW} {C S : qcM} {L0 : Nat → Int64} {D0 : Nat → UInt64} {L1 : Nat → Int64} {D1 : Nat → UInt64} {rc : Int32} {m : Nat}
theorem qx_store {l c : Nat} {r : List Nat} (hl8 : l < 8) (hc : c < 10) (hrc : C.1 258 c = rc) (hm : m < 16) (hl : r.length + 2 ≤ 24) (hN : qx_N S) (h69 : S.1 291 69 = 0) (hW : qx_W L0 D0 L1 D1 rc m C S) (hP : qx_pl (qw_kd l :: 1 :: r) C S) : qx_T w L0 D0 L1 D1 rc m (nI (20 + l)) (nI c) r C S := by
  obtain ⟨hc2, hs2, hR⟩ := hP
  have hc2 : C.1 287 2 = nI (r.length + 2) := hc2
  have hs2 : S.1 291 67 = nI (r.length + 2) := hs2
  rcases qp_store (w := w) (Rc := C.2.2.2) (Rr := S.2.2.2) hl8 hc hW.1 h69 hm hW.2.2.1 hl hR with ⟨f, f1, f2, e1, e2⟩ | ⟨i, j, t, va, vd, i1, j1, t1, p1, p2, p3, e1, e2⟩
  · exact qx_ofS hc2 hs2 h69 hW ⟨f, _, _, _, _, _, _, e1, by rw [if_neg f1]; exact e2, fun q => absurd q f1, f2, hN⟩
  · rw [qx_self hc2, qi_rr_0, qi_rr_0] at e1
    rw [qx_self hs2, qi_rr_0, qi_rr_0] at e2
    obtain ⟨W1, W2, W3, W4, W5, W6, W7⟩ := hW
    refine ⟨0, (_, _, _, _), (_, _, _, _), m + 1, e1, e2, ?_, by decide, ⟨?_, ?_, ?_, rfl⟩, ⟨?_, ?_, ?_, rfl⟩, ?_, ⟨?_, by omega, ?_, ?_, ?_, ?_, ?_⟩, Or.inr ⟨rfl, l, hl8, rfl⟩, fun _ => ⟨?_, ?_, ?_⟩⟩
    · dsimp only
      rw [qc_u_ne _ _ (Or.inr (by decide)), qc_u_ne _ _ (Or.inl (by decide)), qc_u_ne _ _ (Or.inr (by decide)), h69]
    · intro a k hk
      exact qc_u_ne _ _ (by omega)
    · intro a ha hb
      dsimp only
      rw [qi_rr_off _ _ hb]
    · intro a ha hb
      dsimp only
      rw [qi_rr_off _ _ hb]
    · intro a k hk ha
      dsimp only
      rw [qc_u_ne _ _ (by omega), qc_u_ne _ _ (Or.inl ha), qc_u_ne _ _ (by omega)]
    · intro a ha hb hd
      dsimp only
      rw [qi_rr_off _ _ hd, qi_rr_off _ _ hb]
    · intro a ha hb hd
      dsimp only
      rw [qi_rr_off _ _ hd, qi_rr_off _ _ hb]
    · intro k hk
      dsimp only
      rw [qi_rr_off _ _ (by decide), qi_rr_off _ _ (by decide)]
      exact hN k hk
    · have q := qi_set W1 hc p1 p2 i1 j1 t1 p3
      have z0 : ∀ a, a ≠ 291 → a ≠ 330 → qc_u (qc_u (qc_u S.1 291 67 (nI r.length)) 330 m (nI (j * 16 + t))) 291 73 (nI (m + 1)) a = S.1 a := fun a h1 h2 => by rw [qc_u_off _ _ h1, qc_u_off _ _ h2, qc_u_off _ _ h1]
      unfold qx_cols
      dsimp only
      rw [z0 _ (by decide) (by decide), z0 _ (by decide) (by decide), z0 _ (by decide) (by decide), qc_u_off _ _ (show 258 ≠ 287 by decide), qc_u_off _ _ (show 259 ≠ 287 by decide), qc_u_off _ _ (show 260 ≠ 287 by decide), qi_rr_on, qi_rr_on, qi_rr_on, qi_rr_on]
      exact q
    · dsimp only
      exact qc_u_at _ _ _ _
    · intro k hk
      dsimp only
      rw [qc_u_ne _ _ (Or.inl (by decide))]
      by_cases q : k = m
      · rw [q, qc_u_at]
        exact qi_inbN (by omega) (by decide)
      · rw [qc_u_ne _ _ (Or.inr q), qc_u_ne _ _ (Or.inl (by decide))]
        exact W4 k (by omega)
    · dsimp only
      rw [qc_u_off _ _ (by decide), qi_u_on, qc_u_off _ _ (by decide), qi_rr_off _ _ (show 331 ≠ 295 by decide), qi_rr_on, qi_rr_on, qx_un_s (by omega) (Or.inr ⟨va, rfl⟩)]
      exact W5
    · dsimp only
      rw [qc_u_off _ _ (by decide), qi_u_on, qc_u_off _ _ (by decide), qi_rr_off _ _ (show 332 ≠ 296 by decide), qi_rr_on, qi_rr_on, qx_un_s (by omega) (Or.inr ⟨vd, rfl⟩)]
      exact W6
    · intro k hk
      dsimp only
      have q := hk i t (hrc.symm.trans p1) i1 t1
      rw [qi_rr_on, qi_rr_on, qi_up_ne _ _ q, qi_up_ne _ _ q]
      exact W7 k hk
    · dsimp only
      exact qc_u_at _ _ _ _
    · dsimp only
      rw [qc_u_ne _ _ (Or.inr (by decide)), qc_u_ne _ _ (Or.inl (by decide)), qc_u_at]
    · dsimp only
      rw [qi_rr_off _ _ (by decide), qi_rr_off _ _ (by decide), qi_rr_off _ _ (by decide), qi_rr_off _ _ (by decide), qi_rr_off _ _ (by decide), qi_rr_off _ _ (by decide)]
      exact hR.2.2
end
