/-! put, cell -/
theorem qi_m32 (b : Int32) : ((b &&& 2147483647) ≤ (2139095040 : Int32)) ↔ qc_n32 b.toUInt32 = true := by
  unfold qc_n32
  rw [decide_eq_true_eq, UInt32.le_iff_toNat_le, Int32.le_iff_toInt_le]
  have h1 : (b &&& 2147483647).toInt = ((b.toUInt32 &&& 0x7fffffff).toNat : Int) := by
    show (b.toBitVec &&& 2147483647#32).toInt = ((b.toBitVec &&& 2147483647#32).toNat : Int)
    rw [BitVec.toInt_eq_toNat_of_lt]
    rw [BitVec.toNat_and]
    have : b.toBitVec.toNat &&& (2147483647#32).toNat ≤ 2147483647 := Nat.and_le_right
    omega
  rw [h1, show (2139095040 : Int32).toInt = 2139095040 from rfl, show (0x7f800000 : UInt32).toNat = 2139095040 from rfl]
  omega
theorem qi_m64 (b : Int64) : (lg_cmp (b &&& 9223372036854775807) 9218868437227405312 ≤ 0) ↔ qc_n64 b.toUInt64 = true := by
  unfold qc_n64
  rw [lg_cmp_le, decide_eq_true_eq, UInt64.le_iff_toNat_le, Int64.le_iff_toInt_le]
  have h1 : (b &&& 9223372036854775807).toInt = ((b.toUInt64 &&& 0x7fffffffffffffff).toNat : Int) := by
    show (b.toBitVec &&& 9223372036854775807#64).toInt = ((b.toBitVec &&& 9223372036854775807#64).toNat : Int)
    rw [BitVec.toInt_eq_toNat_of_lt]
    rw [BitVec.toNat_and]
    have : b.toBitVec.toNat &&& (9223372036854775807#64).toNat ≤ 9223372036854775807 := Nat.and_le_right
    omega
  rw [h1, show (9218868437227405312 : Int64).toInt = 9218868437227405312 from rfl, show (0x7ff0000000000000 : UInt64).toNat = 9218868437227405312 from rfl]
  omega
theorem qi_up_self {α : Type} (f : Nat → α) (k : Nat) : qi_up f k (f k) = f := by
  funext j
  unfold qi_up
  split
  · rename_i h
    rw [h]
  · rfl
/-- what a lane keeps of a long -/
def qi_nr (l : Int32) (x : Int64) : Int64 := if l = 0 then (if lg_cmp x 0 = 0 then 0 else 1) else if l = 1 then Int32.toInt64 (Int8.toInt32 (Int32.toInt8 (Int64.toInt32 x))) else if l = 2 then Int32.toInt64 (Int16.toInt32 (Int32.toInt16 (Int64.toInt32 x))) else if l = 3 then Int32.toInt64 (UInt32.toInt32 (Int32.toUInt32 (Int64.toInt32 x) % 65536)) else if l = 4 then Int32.toInt64 (Int64.toInt32 x) else x
section
variable {w : qcW} {I : qTI} {L : qTL} {D : qTD} {R : qTR}
theorem fm_lowest (l : Int32) (x : Int64) : fX12_lowest w I L D R l x = some (qi_nr l x, I, L, D, R) := by
  unfold fX12_lowest qi_nr
  repeat' split
  all_goals rfl
theorem fx_narrowed (l : Int32) (x : Int64) : fX1_narrowed w I L D R l x = some (qi_nr l x, I, L, D, R) := by
  unfold fX1_narrowed qi_nr
  repeat' split
  all_goals rfl
theorem qi_tt (y : Int32) : (Int32.toInt64 y).toInt32 = y := by
  apply Int32.toInt_inj.mp
  rw [Int64.toInt_toInt32, Int32.toInt_toInt64]
  have h1 := Int32.le_toInt y
  have h2 := Int32.toInt_lt y
  exact Int.bmod_eq_of_le (by omega) (by omega)
theorem qi_nr_co (l : Int32) (x : Int64) (hl : qc_inb l 8 = true) {d : UInt64} (hd : qc_n64 d = true) (h6 : l = 6 → ∃ f : UInt32, qc_n32 f = true ∧ d = FP.f2d f) : qi_co l (qi_nr l x) d := by
  refine ⟨fun h => ?_, fun h => ?_, hd, h6⟩
  · unfold qi_nr
    rw [if_pos h]
    split
    · exact Or.inl rfl
    · exact Or.inr rfl
  · unfold qi_nr
    split
    · split <;> rfl
    · split
      · rw [qi_tt]
      · split
        · rw [qi_tt]
        · split
          · rw [qi_tt]
          · split
            · rw [qi_tt]
            · rename_i q0 q1 q2 q3 q4
              exfalso
              obtain ⟨k, hk, rfl, -⟩ := qi_k hl (by decide)
              have h5 := (qi_lt (b := 5) (by omega) (by decide)).mp h
              rcases (show k = 0 ∨ k = 1 ∨ k = 2 ∨ k = 3 ∨ k = 4 by omega) with rfl | rfl | rfl | rfl | rfl
              · exact q0 (by decide)
              · exact q1 (by decide)
              · exact q2 (by decide)
              · exact q3 (by decide)
              · exact q4 (by decide)
theorem qi_sn32 {b : Int32} (h : qc_n32 b.toUInt32 = true) : (!vn_sni2f b) = true := by
  unfold qc_n32 at h
  have h1 := of_decide_eq_true h
  unfold vn_sni2f
  rw [decide_eq_false (UInt32.not_lt.mpr h1)]
  rfl
theorem qi_sn64 {b : Int64} (h : qc_n64 b.toUInt64 = true) : (!vn_snl2d b) = true := by
  unfold qc_n64 at h
  have h1 := of_decide_eq_true h
  unfold vn_snl2d
  rw [decide_eq_false (UInt64.not_lt.mpr h1)]
  rfl
theorem fx_cellFault {c i : Nat} {x : Int64} (hc : c < 10) (hi : i < 10) (h : I 258 c = nI i) (l : Int32) : fX1_cellFault w I L D R (nI c) l x = some (if I 259 i = l then (if 0 ≤ x.toInt ∧ x.toInt < (I 260 i).toInt then 0 else 2) else 3, I, L, D, R) := by
  simp only [fX1_cellFault, fx_isColumn, qi_inbN hc (by decide), qc_bds, if_true, qc_gdt, nI_clamp (show c < 2 ^ 31 by omega), h, qi_nI_m1 (show i < 2 ^ 31 by omega), if_false, qi_inbN hi (by decide), nI_clamp (show i < 2 ^ 31 by omega), lg_cmp_lt, Int64.lt_iff_toInt_lt, Int32.toInt_toInt64, show (0 : Int64).toInt = 0 from rfl]
  by_cases h1 : I 259 i = l
  · rw [if_pos h1, if_pos h1]
    by_cases h2 : x.toInt < 0
    · rw [if_pos h2, if_neg (by omega)]
    · rw [if_neg h2]
      by_cases h3 : x.toInt < (I 260 i).toInt
      · rw [if_pos h3, if_pos (by omega)]
      · rw [if_neg h3, if_neg (by omega)]
  · rw [if_neg h1, if_neg h1]
theorem qi_rr2 {α : Type} (f : Nat → Nat → α) (a k : Nat) (x : α) : qc_u f a k x = qi_rr f a (qi_up (f a) k x) := by
  funext b
  by_cases h : b = a
  · rw [h, qi_u_on, qi_rr_on]
  · rw [qc_u_off _ _ h, qi_rr_off _ _ h]
theorem pp_put (h : Inv w (I, L, D, R)) (x y : Int32) (v : Int64) : qv_pp w (fun I L D R => fX11_put w I L D R x y v) (fun I L D R => fX12_put w I L D R x y v) (I, L, D, R) := by
  cases hx : qc_inb x 10
  · exact qv_same h (-1) (by simp only [fX11_put, fx_isColumn, hx, qc_bds, qf_ff]) (by simp only [fX12_put, fm_isColumn, hx, qc_bds, qf_ff])
  · obtain ⟨c, hc, hxc, hc2⟩ := qi_k hx (by decide)
    subst hxc
    have hcc := h.2.2.2.1
    rcases qi_at h hc with ⟨a1, a2⟩ | ⟨i, j, a1, a2, hrw⟩
    · refine qv_same h (-3) (by simp only [fX11_put, fx_isColumn, hx, qc_bds, if_true, fx_lane0 hc a1]) ?_
      simp only [fX12_put, fX12_put_b44, fm_isColumn, hx, qc_bds, if_true, qc_gdt, hc2, a2]
    · obtain ⟨a3, a4, a5, a6, a7, a8, a9⟩ := hrw
      obtain ⟨l, hl, hl2, -⟩ := qi_k a6 (by decide)
      obtain ⟨sz, hsz, hsz2, -⟩ := qi_k a8 (by decide)
      have hlm : I 259 i ≠ -1 := by rw [hl2]; exact qi_nI_m1 (by omega)
      have hjm : ¬ nI j = (-1 : Int32) := qi_nI_m1 (by omega)
      have hszM : I 294 j = nI sz := a7.symm.trans hsz2
      have ein : ∀ (J : qTI) (L1 : qTL) (D1 : qTD), fX12_in w J L1 D1 R (Int32.toInt64 y) 0 (Int32.toInt64 (nI sz - 1)) = some (qc_inb y sz, J, L1, D1, R) := fun J L1 D1 => fm_in sz (qi_m1 rfl (by omega))
      have hm0 : ∀ (L1 : qTL) (D1 : qTD), fX12_put w I L1 D1 R (nI c) y v = if qc_inb y sz = true then fX12_put_b44 w I L1 D1 R y v (nI j) else some (-1, I, L1, D1, R) := by
        intro L1 D1
        simp only [fX12_put, fm_isColumn, hx, qc_bds, if_true, qc_gdt, hc2, a2, hjm, if_false, qi_inbN a4 (by decide), nI_clamp (show j < 2 ^ 31 by omega), hszM, ein]
      have hx0 : fX11_put w I L D R (nI c) y v = (qc_bd (fX1_setBits w I L D R (nI c) y v) fun r5 I5 L5 D5 R5 => if r5 = true then (some ((1 : Int32), I5, L5, D5, R5)) else (some ((-1 : Int32), I5, L5, D5, R5))) := by
        simp only [fX11_put, fx_isColumn, hx, qc_bds, if_true, fx_lane1 hc a3 a1, hlm, if_false]
      have hcf : fX1_cellFault w I L D R (nI c) (I 259 i) (Int32.toInt64 y) = some (if qc_inb y sz = true then 0 else 2, I, L, D, R) := by
        rw [fx_cellFault hc a3 a1, if_pos rfl, Int32.toInt_toInt64, hsz2, nI_toInt (by omega)]
        congr 2
        by_cases q : 0 ≤ y.toInt ∧ y.toInt < sz
        · rw [if_pos q, (qi_inb_iff y sz).mpr q, if_pos rfl]
        · rw [if_neg q, qi_inbF q, qf_ff]
      cases hy : qc_inb y sz
      · refine qv_same h (-1) ?_ (by have := hm0 L D; rw [hy, qf_ff] at this; exact this)
        show fX11_put w I L D R (nI c) y v = _
        rw [hx0]
        simp only [fX1_setBits, fx_lane1 hc a3 a1, qc_bds, hcf, hy, qf_ff, show ¬ (2 : Int32) = 0 by decide, if_false, Bool.false_eq_true]
      · obtain ⟨t, ht, hyt, hyt2⟩ := qi_k hy (by omega)
        subst hyt
        have e16 : nI i * 16 + nI t = nI (i * 16 + t) := by rw [show (16 : Int32) = nI 16 by decide, qi_mul, nI_add]
        have e16m : (16 : Int32) * nI j + nI t = nI (j * 16 + t) := by rw [show (16 : Int32) = nI 16 by decide, qi_mul, nI_add, Nat.mul_comm]
        have b1 : qc_inb (nI (i * 16 + t)) 160 = true := qi_inbN (by omega) (by decide)
        have b2 : qc_inb (nI (j * 16 + t)) 176 = true := qi_inbN (by omega) (by decide)
        obtain ⟨o1, o2, o3⟩ := a9 t (by omega)
        have hM1 : ∀ (L1 : qTL) (D1 : qTD), fX12_put w I L1 D1 R (nI c) (nI t) v = fX12_put_b44 w I L1 D1 R (nI t) v (nI j) := by
          intro L1 D1
          have := hm0 L1 D1
          rw [hy, if_pos rfl] at this
          exact this
        have hl6 : I 293 j = I 259 i := a5.symm
        have hX1 : fX1_setBits w I L D R (nI c) (nI t) v = if (6 : Int32) ≤ I 259 i then (if I 259 i = (6 : Int32) then (if (!qc_n32 (Int64.toInt32 v).toUInt32) = true then some (false, I, L, D, R) else fX1_setBits_b86 w I L D R v (nI (i * 16 + t)) (I 259 i)) else (if (!qc_n64 v.toUInt64) = true then some (false, I, L, D, R) else fX1_setBits_b86 w I L D R v (nI (i * 16 + t)) (I 259 i))) else some (true, I, qc_u L 261 (i * 16 + t) (qi_nr (I 259 i) v), D, R) := by
          simp only [fX1_setBits, fx_lane1 hc a3 a1, qc_bds, hcf, hy, if_true, qi_inbN hc (by decide), qc_gdt, nI_clamp (show c < 2 ^ 31 by omega), a1, fx_isNoFloat, fx_isNoDouble, fx_narrowed, e16, b1, nI_clamp (show i * 16 + t < 2 ^ 31 by omega)]
        have hM2 : ∀ (L1 : qTL) (D1 : qTD), fX12_put_b44 w I L1 D1 R (nI t) v (nI j) = if I 259 i = (6 : Int32) then (if qc_n32 (Int64.toInt32 v).toUInt32 = true then (qc_gd (!(vn_sni2f (Int64.toInt32 v))) <| qc_gd (qc_n64 (FP.f2d (Int32.toUInt32 (Int64.toInt32 v)))) <| some ((1 : Int32), I, L1, (qc_u D1 296 (j * 16 + t) (FP.f2d (Int32.toUInt32 (Int64.toInt32 v)))), R)) else (some ((-1 : Int32), I, L1, D1, R))) else (if I 259 i = (7 : Int32) then (if qc_n64 v.toUInt64 = true then (qc_gd (!(vn_snl2d v)) <| some ((1 : Int32), I, L1, (qc_u D1 296 (j * 16 + t) (Int64.toUInt64 v)), R)) else (some ((-1 : Int32), I, L1, D1, R))) else some ((1 : Int32), I, (qc_u L1 295 (j * 16 + t) (qi_nr (I 259 i) v)), D1, R)) := by
          intro L1 D1
          simp only [fX12_put_b44, hjm, if_false, qi_inbN a4 (by decide), qc_gdt, nI_clamp (show j < 2 ^ 31 by omega), hl6, e16m, b2, nI_clamp (show j * 16 + t < 2 ^ 31 by omega), qi_m32, qi_m64, fm_lowest, qc_bds]
        -- a change of one cell in both
        have hfin : ∀ (a : Int64) (d : UInt64), qi_co (I 259 i) a d → Inv w (I, qi_rr (qi_rr L 261 (qi_up (L 261) (i * 16 + t) a)) 295 (qi_up (L 295) (j * 16 + t) a), qi_rr (qi_rr D 262 (qi_up (D 262) (i * 16 + t) d)) 296 (qi_up (D 296) (j * 16 + t) d), R) := by
          intro a d ho
          refine Inv.cols h (fun _ _ => rfl) (fun b hb => ?_) (fun b hb => ?_) ?_
          · rw [qi_rr_off _ _ (fun q => by rw [q] at hb; cases hb), qi_rr_off _ _ (fun q => by rw [q] at hb; cases hb)]
          · rw [qi_rr_off _ _ (fun q => by rw [q] at hb; cases hb), qi_rr_off _ _ (fun q => by rw [q] at hb; cases hb)]
          · rw [qi_rr_on, qi_rr_on, qi_rr_off _ _ (show 261 ≠ 295 by decide), qi_rr_off _ _ (show 262 ≠ 296 by decide), qi_rr_on, qi_rr_on]
            exact qi_set hcc hc a1 a2 a3 a4 (by omega) ho
        have same : ∀ f : UInt64, qi_co (I 259 i) (L 261 (i * 16 + t)) f → Inv w (I, L, qc_u (qc_u D 262 (i * 16 + t) f) 296 (j * 16 + t) f, R) := by
          intro f ho
          have h5 := hfin _ f ho
          have z1 : qi_up (L 295) (j * 16 + t) (L 261 (i * 16 + t)) = L 295 := by rw [show L 261 (i * 16 + t) = L 295 (j * 16 + t) from o1]; exact qi_up_self _ _
          rw [qi_up_self, z1, qi_rr_0, qi_rr_0] at h5
          rw [qi_rr2 D, qi_rr2, qi_rr_off _ _ (show 296 ≠ 262 by decide)]
          exact h5
        by_cases l6 : I 259 i = 6
        · rw [if_pos (by rw [l6]; exact Int32.le_refl _), if_pos l6] at hX1
          cases hb : qc_n32 (Int64.toInt32 v).toUInt32
          · refine qv_same h (-1) ?_ ?_
            · show fX11_put w I L D R (nI c) (nI t) v = _
              rw [hx0, hX1, hb]
              rfl
            · show fX12_put w I L D R (nI c) (nI t) v = _
              rw [hM1, hM2, if_pos l6, hb, qf_ff]
          · have hN32 := (qf_n32 _).mp hb
            refine ⟨1, I, L, qc_u D 262 (i * 16 + t) (FP.f2d (Int64.toInt32 v).toUInt32), R, I, L, qc_u (qc_u D 262 (i * 16 + t) (FP.f2d (Int64.toInt32 v).toUInt32)) 296 (j * 16 + t) (FP.f2d (Int64.toInt32 v).toUInt32), R, ?_, ?_, fun _ => ?_⟩
            · show fX11_put w I L D R (nI c) (nI t) v = _
              rw [hx0, hX1, hb]
              simp only [Bool.not_true, Bool.false_eq_true, if_false]
              unfold fX1_setBits_b86
              rw [if_pos l6, fx_floatOf hN32, qc_bds, b1, qc_gdt, nI_clamp (by omega)]
              rfl
            · show fX12_put w I L _ R (nI c) (nI t) v = _
              rw [hM1, hM2, if_pos l6, hb, if_pos rfl, qi_sn32 hb, qc_gdt, (qf_n64 _).mpr (qf_f2d_N hN32), qc_gdt]
            · refine same _ ⟨fun q => absurd q (by rw [l6]; decide), fun q => absurd q (by rw [l6]; decide), (qf_n64 _).mpr (qf_f2d_N hN32), fun _ => ⟨_, hb, rfl⟩⟩
        · by_cases l7 : I 259 i = 7
          · rw [if_pos (by rw [l7]; decide), if_neg l6] at hX1
            cases hb : qc_n64 v.toUInt64
            · refine qv_same h (-1) ?_ ?_
              · show fX11_put w I L D R (nI c) (nI t) v = _
                rw [hx0, hX1, hb]
                rfl
              · show fX12_put w I L D R (nI c) (nI t) v = _
                rw [hM1, hM2, if_neg l6, if_pos l7, hb, qf_ff]
            · have hN64 := (qf_n64 _).mp hb
              refine ⟨1, I, L, qc_u D 262 (i * 16 + t) v.toUInt64, R, I, L, qc_u (qc_u D 262 (i * 16 + t) v.toUInt64) 296 (j * 16 + t) v.toUInt64, R, ?_, ?_, fun _ => ?_⟩
              · show fX11_put w I L D R (nI c) (nI t) v = _
                rw [hx0, hX1, hb]
                simp only [Bool.not_true, Bool.false_eq_true, if_false]
                unfold fX1_setBits_b86
                rw [if_neg l6, fx_doubleOf hN64, qc_bds, b1, qc_gdt, nI_clamp (by omega)]
                rfl
              · show fX12_put w I L _ R (nI c) (nI t) v = _
                rw [hM1, hM2, if_neg l6, if_pos l7, hb, if_pos rfl, qi_sn64 hb, qc_gdt]
              · refine same _ ⟨fun q => absurd q (by rw [l7]; decide), fun q => absurd q (by rw [l7]; decide), hb, fun q => absurd q l6⟩
          · have hlt : ¬ (6 : Int32) ≤ I 259 i := by
              rw [hl2]
              intro q
              have := (qi_le (a := 6) (by decide) (by omega)).mp q
              rcases (show l = 6 ∨ l = 7 by omega) with rfl | rfl
              · exact l6 hl2
              · exact l7 hl2
            rw [if_neg hlt] at hX1
            refine ⟨1, I, qc_u L 261 (i * 16 + t) (qi_nr (I 259 i) v), D, R, I, qc_u (qc_u L 261 (i * 16 + t) (qi_nr (I 259 i) v)) 295 (j * 16 + t) (qi_nr (I 259 i) v), D, R, ?_, ?_, fun _ => ?_⟩
            · show fX11_put w I L D R (nI c) (nI t) v = _
              rw [hx0, hX1]
              rfl
            · show fX12_put w I _ D R (nI c) (nI t) v = _
              rw [hM1, hM2, if_neg l6, if_neg l7]
            · have h5 := hfin (qi_nr (I 259 i) v) (D 262 (i * 16 + t)) (qi_nr_co _ _ a6 o3.2.2.1 o3.2.2.2)
              have z1 : qi_up (D 296) (j * 16 + t) (D 262 (i * 16 + t)) = D 296 := by rw [show D 262 (i * 16 + t) = D 296 (j * 16 + t) from o2]; exact qi_up_self _ _
              rw [qi_up_self, z1, qi_rr_0, qi_rr_0] at h5
              rw [qi_rr2 L, qi_rr2, qi_rr_off _ _ (show 295 ≠ 261 by decide)]
              exact h5
end
