/-! words and signs as the reference tests them -/
theorem lk_iff (l : List (Nat × Nat)) : ∀ (v' v m : Nat), (v, m) ∈ l → (∀ q ∈ l, q.1 = v → q.2 = m) → (∀ q ∈ l, q.2 = m → q.1 = v) → m ≠ 4 → ((l.lookup v').getD 4 = m ↔ v' = v) := by
  induction l with
  | nil => intro v' v m h; cases h
  | cons q l ih =>
    intro v' v m h h1 h2 h4
    rw [List.lookup_cons]
    by_cases z : v' = q.1
    · rw [show (v' == q.1) = true from beq_iff_eq.mpr z]
      constructor
      · intro y; rw [z]; exact h2 q (List.mem_cons_self ..) y
      · intro y; exact h1 q (List.mem_cons_self ..) (z.symm.trans y)
    · rw [show (v' == q.1) = false from Bool.eq_false_iff.mpr (fun y => z (beq_iff_eq.mp y))]
      by_cases y : (v, m) ∈ l
      · exact ih v' v m y (fun q hq => h1 q (List.mem_cons_of_mem _ hq)) (fun q hq => h2 q (List.mem_cons_of_mem _ hq)) h4
      · have hq : q = (v, m) := by
          rcases List.mem_cons.mp h with u | u
          · exact u.symm
          · exact absurd u y
        constructor
        · intro u
          exfalso
          have : ∀ l : List (Nat × Nat), (∀ r ∈ l, r.2 = m → r.1 = v) → (∀ r ∈ l, r.1 = v → r.2 = m) → (v, m) ∉ l → (l.lookup v').getD 4 ≠ m := by
            intro l
            induction l with
            | nil => intro _ _ _ e; exact h4 e.symm
            | cons r l ih2 =>
              intro g1 g2 g3 e
              rw [List.lookup_cons] at e
              by_cases t : v' = r.1
              · rw [show (v' == r.1) = true from beq_iff_eq.mpr t] at e
                have e1 := g1 r (List.mem_cons_self ..) e
                exact g3 (by rw [show (v, m) = r from Prod.ext e1.symm (Eq.symm e)]; exact List.mem_cons_self ..)
              · rw [show (v' == r.1) = false from Bool.eq_false_iff.mpr (fun y => t (beq_iff_eq.mp y))] at e
                exact ih2 (fun r hr => g1 r (List.mem_cons_of_mem _ hr)) (fun r hr => g2 r (List.mem_cons_of_mem _ hr)) (fun hr => g3 (List.mem_cons_of_mem _ hr)) e
          exact this l (fun r hr => h2 r (List.mem_cons_of_mem _ hr)) (fun r hr => h1 r (List.mem_cons_of_mem _ hr)) y u
        · intro u
          exact absurd u (by rw [hq] at z; exact z)
theorem qt_wL_ok : ∀ q ∈ qt_wL, (∀ r ∈ qt_wL, r.1 = q.1 → r.2 = q.2) ∧ (∀ r ∈ qt_wL, r.2 = q.2 → r.1 = q.1) ∧ 5 ≤ q.2 ∧ q.2 ≤ 35 ∧ 0 < q.1 ∧ q.1 < 2147483648 := by decide
theorem qt_tx_in2 : ∀ m, m < 62 → ∀ k, k < 62 → (36 ≤ m ∧ 36 ≤ k ∧ (qt_tx m).length = (qt_tx k).length ∧ (qt_tx m).getD 0 0 = (qt_tx k).getD 0 0 ∧ (qt_tx m).getD 1 0 = (qt_tx k).getD 1 0 ∧ (qt_tx m).getD 2 0 = (qt_tx k).getD 2 0) → m = k := by decide
theorem qt_tx_len : ∀ m, m < 62 → 36 ≤ m → 1 ≤ (qt_tx m).length ∧ (qt_tx m).length ≤ 3 ∧ (qt_tx m).getD 0 0 < 256 ∧ (qt_tx m).getD 1 0 < 256 ∧ (qt_tx m).getD 2 0 < 256 ∧ ((qt_tx m).length = 1 ↔ (qt_tx m).getD 1 0 = 0) ∧ ((qt_tx m).length = 3 ↔ (qt_tx m).getD 2 0 ≠ 0) := by decide
/-- what all tests of a token say -/
def mTs (w : qcW) (I : qTI) (L : qTL) (D : qTD) (R : qTR) (m : Nat) : Prop :=
  (∀ q ∈ qt_wL, fX12_isWord w I L D R (nL q.1) = some (decide (m = q.2), I, L, D, R)) ∧ ∀ k, k < 62 → 36 ≤ k → fX12_isSign w I L D R (nI ((qt_tx k).getD 0 0)) (nI ((qt_tx k).getD 1 0)) (nI ((qt_tx k).getD 2 0)) = some (decide (m = k), I, L, D, R)
theorem qt_m_w {b : Nat → Nat} {p : Nat} (h : qt_le (b (qt_from b p)) = true) : qt_m b p = qt_wm (qt_w b (qt_from b p)) ∧ qt_to b p = qt_le_end b (qt_from b p) := by
  have h1 : b (qt_from b p) ≠ 256 := fun z => by rw [z] at h; cases h
  unfold qt_m qt_to
  rw [if_neg h1, if_neg h1, if_pos h, if_pos h]
  exact ⟨rfl, rfl⟩
theorem qt_m_nw {b : Nat → Nat} {p : Nat} (h : ¬ qt_le (b (qt_from b p)) = true) : qt_m b p ≤ 3 ∨ 36 ≤ qt_m b p := by
  unfold qt_m
  have := (qt_sg_m (b (qt_from b p)) (b (qt_from b p + 1)) (b (qt_from b p + 2))).2
  repeat' split
  all_goals omega
/-- a sign, and where it stands -/
theorem qt_m_s {b : Nat → Nat} {p : Nat} (h : qt_m b p < 62) (h2 : 36 ≤ qt_m b p) : qt_m b p = (qt_sg (b (qt_from b p)) (b (qt_from b p + 1)) (b (qt_from b p + 2))).1 ∧ qt_to b p = qt_from b p + (qt_sg (b (qt_from b p)) (b (qt_from b p + 1)) (b (qt_from b p + 2))).2 := by
  by_cases c2 : qt_le (b (qt_from b p)) = true
  · have := (qt_wm_0 (qt_w b (qt_from b p))).2.2.2
    have := (qt_m_w c2).1
    omega
  unfold qt_m at h h2 ⊢
  unfold qt_to
  generalize qt_from b p = s at h h2 c2
  by_cases c1 : b s = 256
  · rw [if_pos c1] at h2; omega
  rw [if_neg c1, if_neg c2] at h h2
  rw [if_neg c1, if_neg c2, if_neg c1, if_neg c2]
  by_cases c3 : qt_fi (b s) = true
  · rw [if_pos c3] at h h2
    split at h
    · split at h
      · rename_i z1 z2; rw [if_pos z1, if_pos z2] at h2; omega
      · omega
    · split at h
      · rename_i z1 z2; rw [if_neg z1, if_pos z2] at h2; omega
      · omega
  rw [if_neg c3] at h h2
  rw [if_neg c3, if_neg c3]
  by_cases c4 : b s = 36
  · rw [if_pos c4] at h h2
    split at h
    · rename_i z; rw [if_pos z] at h2; omega
    · omega
  rw [if_neg c4, if_neg c4]
  exact ⟨rfl, rfl⟩
theorem qt_kd_5 {m : Nat} (h : m ≠ 63) (h2 : m < 64) : (qt_kd m = 5 ↔ 36 ≤ m) ∧ (qt_kd m = 1 ↔ 4 ≤ m ∧ m ≤ 35) ∧ qt_kd m < 6 := by
  unfold qt_kd
  by_cases a : m = 0
  · rw [if_pos a]; omega
  by_cases b : m = 1
  · rw [if_neg a, if_pos b]; omega
  by_cases c : m = 2
  · rw [if_neg a, if_neg b, if_pos c]; omega
  by_cases d : m = 3
  · rw [if_neg a, if_neg b, if_neg c, if_pos d]; omega
  by_cases e : m ≤ 35
  · rw [if_neg a, if_neg b, if_neg c, if_neg d, if_pos e]; omega
  · rw [if_neg a, if_neg b, if_neg c, if_neg d, if_neg e]; omega
section
variable {w : qcW} {I : qTI} {L : qTL} {D : qTD} {R : qTR} {b : Nat → Nat} {len m : Nat} {e : Nat × Nat}
theorem sF_0 (h : sF e I) : I 291 15 ≠ 0 := by
  rw [h.1]
  exact fun z => by have := qi_nI_inj (j := 0) (by have := h.2.2.1; omega) (by decide) z; have := h.2.1; omega
theorem mTs_F (h : sF e I) : mTs w I L D R 63 := by
  refine ⟨fun q hq => ?_, fun k hk hk2 => ?_⟩
  · have := (qt_wL_ok q hq).2.2.2.1
    unfold fX12_isWord
    rw [if_neg (sF_0 h), show decide (63 = q.2) = false from decide_eq_false (by omega)]
  · unfold fX12_isSign fX12_isSign_b17
    rw [if_neg (sF_0 h), if_neg (sF_0 h), if_neg (sF_0 h), show decide (63 = k) = false from decide_eq_false (by omega)]
    repeat' split
    all_goals rfl
theorem mTs_N (hB : qt_B b len) (hT : tpM b len I) {p : Nat} (hp : p ≤ len) (h : sM b p I L D) (hm : qt_m b p ≠ 63) : mTs w I L D R (qt_m b p) := by
  have hl := hB.1
  have hm2 := qt_m_lt b p
  obtain ⟨h10, h11, h15, h9, h12, h13, h14⟩ := h
  obtain ⟨p1, p2, p3, p4⟩ := qt_pos hB hp
  obtain ⟨k5, k1, k6⟩ := qt_kd_5 hm (by omega)
  refine ⟨fun q hq => ?_, fun k hk hk2 => ?_⟩
  · obtain ⟨o1, o2, o3, o4, o5, o6⟩ := qt_wL_ok q hq
    unfold fX12_isWord
    rw [if_pos h15, h9]
    have e1 : nI (qt_kd (qt_m b p)) = (1 : Int32) ↔ qt_kd (qt_m b p) = 1 := qi_nI_inj' (j := 1) (by omega) (by decide)
    by_cases c : qt_le (b (qt_from b p)) = true
    · obtain ⟨w1, w2⟩ := qt_m_w c
      have hw := qt_wm_0 (qt_w b (qt_from b p))
      rw [if_pos (e1.mpr (k1.mpr (by omega))), h12 c, w1, w2]
      have hi := lk_iff qt_wL (qt_w b (qt_from b p)) q.1 q.2 hq o1 o2 (by omega)
      change qt_wm (qt_w b (qt_from b p)) = q.2 ↔ _ at hi
      obtain ⟨l1, l2, l3, l4⟩ := qt_word hB p2 c
      have hc : lg_cmp (qt_wo b (qt_from b p) (qt_le_end b (qt_from b p) - qt_from b p)) (nL q.1) = 0 ↔ qt_w b (qt_from b p) = q.1 := by
        rw [lg_cmp_eq]
        unfold qt_wo qt_w
        split
        · rename_i hn
          have hv := qt_wv_lt b (qt_from b p) _ l1
          have hv2 : 32 ^ (qt_le_end b (qt_from b p) - qt_from b p) ≤ 32 ^ 12 := Nat.pow_le_pow_right (by decide) hn
          exact nL_inj (by omega) (by omega)
        · constructor
          · intro z
            exfalso
            have z2 : (nL q.1).toInt = -1 := by rw [← z]; decide
            rw [nL_toInt (by omega)] at z2
            omega
          · intro z; omega
      by_cases z : qt_w b (qt_from b p) = q.1
      · rw [if_pos (hc.mpr z), decide_eq_true (hi.mpr z)]
      · rw [if_neg (fun y => z (hc.mp y)), decide_eq_false (fun y => z (hi.mp y))]
    · have := qt_m_nw c
      rw [if_neg (fun y => by have := k1.mp (e1.mp y); omega), decide_eq_false (by omega)]
  · obtain ⟨t1, t2, t3, t4, t5, t6, t7⟩ := qt_tx_len k hk hk2
    -- the length that is wanted
    have e0 : fX12_isSign w I L D R (nI ((qt_tx k).getD 0 0)) (nI ((qt_tx k).getD 1 0)) (nI ((qt_tx k).getD 2 0)) = fX12_isSign_b17 w I L D R (nI ((qt_tx k).getD 0 0)) (nI ((qt_tx k).getD 1 0)) (nI ((qt_tx k).getD 2 0)) (nI (qt_tx k).length) := by
      unfold fX12_isSign
      have g2 : nI ((qt_tx k).getD 2 0) ≤ 0 ↔ (qt_tx k).getD 2 0 = 0 := (qi_le (b := 0) (by omega) (by decide)).trans (by omega)
      have g1 : nI ((qt_tx k).getD 1 0) ≤ 0 ↔ (qt_tx k).getD 1 0 = 0 := (qi_le (b := 0) (by omega) (by decide)).trans (by omega)
      by_cases y2 : (qt_tx k).getD 2 0 = 0
      · rw [if_pos (g2.mpr y2)]
        by_cases y1 : (qt_tx k).getD 1 0 = 0
        · rw [if_pos (g1.mpr y1), t6.mpr y1]; rfl
        · rw [if_neg (fun u => y1 (g1.mp u)), show (qt_tx k).length = 2 by omega]; rfl
      · rw [if_neg (fun u => y2 (g2.mp u)), t7.mpr y2]; rfl
    rw [e0]
    unfold fX12_isSign_b17
    have e5 : nI (qt_kd (qt_m b p)) = (5 : Int32) ↔ qt_kd (qt_m b p) = 5 := qi_nI_inj' (j := 5) (by omega) (by decide)
    rw [if_pos h15, h9]
    by_cases c : 36 ≤ qt_m b p
    · obtain ⟨s1, s2⟩ := qt_m_s (by omega) c
      have sok := qt_sg_ok b (qt_from b p)
      rw [← s1] at sok
      obtain ⟨u1, u2, u3, u4⟩ := sok.resolve_left hm
      obtain ⟨v1, v2, v3, v4, v5, v6, v7⟩ := qt_tx_len (qt_m b p) (by omega) c
      have hbyte := (qt_hm_iff b (qt_tx (qt_m b p)) (qt_from b p)).mp u3
      have hto := p3 hm
      rw [← u4] at s2
      rw [if_pos (e5.mpr (k5.mpr c)), h11, h10, qi_sub hto.1, s2, Nat.add_sub_cancel_left]
      have en : nI (qt_tx (qt_m b p)).length = nI (qt_tx k).length ↔ (qt_tx (qt_m b p)).length = (qt_tx k).length := qi_nI_inj' (by omega) (by omega)
      by_cases yn : (qt_tx (qt_m b p)).length = (qt_tx k).length
      · have b0 := hbyte 0 (by omega)
        rw [Nat.add_zero] at b0
        have eb0 : nI ((qt_tx (qt_m b p)).getD 0 0) = nI ((qt_tx k).getD 0 0) ↔ (qt_tx (qt_m b p)).getD 0 0 = (qt_tx k).getD 0 0 := qi_nI_inj' (by omega) (by omega)
        have eb1 : nI ((qt_tx (qt_m b p)).getD 1 0) = nI ((qt_tx k).getD 1 0) ↔ (qt_tx (qt_m b p)).getD 1 0 = (qt_tx k).getD 1 0 := qi_nI_inj' (by omega) (by omega)
        have eb2 : nI ((qt_tx (qt_m b p)).getD 2 0) = nI ((qt_tx k).getD 2 0) ↔ (qt_tx (qt_m b p)).getD 2 0 = (qt_tx k).getD 2 0 := qi_nI_inj' (by omega) (by omega)
        rw [if_pos (en.mpr yn), qi_inbN (by omega) (by decide), qc_gdt, nI_clamp (by omega), hT.2 _ (by omega), b0]
        have hk0 : qt_m b p = k → (qt_tx (qt_m b p)).getD 0 0 = (qt_tx k).getD 0 0 := fun z => by rw [z]
        have hk1 : qt_m b p = k → (qt_tx (qt_m b p)).getD 1 0 = (qt_tx k).getD 1 0 := fun z => by rw [z]
        have hk2' : qt_m b p = k → (qt_tx (qt_m b p)).getD 2 0 = (qt_tx k).getD 2 0 := fun z => by rw [z]
        have hinj := fun a1 a2 a3 => qt_tx_in2 (qt_m b p) (by omega) k hk ⟨c, hk2, yn, a1, a2, a3⟩
        by_cases y0 : (qt_tx (qt_m b p)).getD 0 0 = (qt_tx k).getD 0 0
        · rw [if_pos (eb0.mpr y0)]
          -- the last
          have last : ∀ (hy1 : (qt_tx (qt_m b p)).getD 1 0 = (qt_tx k).getD 1 0), fX12_isSign_b82 w I L D R (nI ((qt_tx k).getD 2 0)) (nI (qt_tx k).length) = some (decide (qt_m b p = k), I, L, D, R) := fun hy1 => by
            unfold fX12_isSign_b82
            have g3 : nI (qt_tx k).length < 3 ↔ (qt_tx k).length < 3 := qi_lt (b := 3) (by omega) (by decide)
            by_cases y3 : (qt_tx k).length < 3
            · rw [if_pos (g3.mpr y3), decide_eq_true (hinj y0 hy1 (by omega))]
            · have b2 := hbyte 2 (by omega)
              rw [if_neg (fun u => y3 (g3.mp u)), h10, show nI (qt_from b p) + (2 : Int32) = nI (qt_from b p + 2) from nI_add _ 2, qi_inbN (by omega) (by decide), qc_gdt, nI_clamp (by omega), hT.2 _ (by omega), b2]
              by_cases y2 : (qt_tx (qt_m b p)).getD 2 0 = (qt_tx k).getD 2 0
              · rw [if_pos (eb2.mpr y2), decide_eq_true (hinj y0 hy1 y2)]
              · rw [if_neg (fun u => y2 (eb2.mp u)), decide_eq_false (fun u => y2 (hk2' u))]
          have g2 : nI (qt_tx k).length < 2 ↔ (qt_tx k).length < 2 := qi_lt (b := 2) (by omega) (by decide)
          by_cases y2 : (qt_tx k).length < 2
          · rw [if_pos (g2.mpr y2)]
            exact last (by rw [v6.mp (by omega), t6.mp (by omega)])
          · have b1 := hbyte 1 (by omega)
            rw [if_neg (fun u => y2 (g2.mp u)), show nI (qt_from b p) + (1 : Int32) = nI (qt_from b p + 1) from nI_add _ 1, qi_inbN (by omega) (by decide), qc_gdt, nI_clamp (by omega), hT.2 _ (by omega), b1]
            by_cases y1 : (qt_tx (qt_m b p)).getD 1 0 = (qt_tx k).getD 1 0
            · rw [if_pos (eb1.mpr y1)]
              exact last y1
            · rw [if_neg (fun u => y1 (eb1.mp u)), decide_eq_false (fun u => y1 (hk1 u))]
        · rw [if_neg (fun u => y0 (eb0.mp u)), decide_eq_false (fun u => y0 (hk0 u))]
      · rw [if_neg (fun u => yn (en.mp u)), decide_eq_false (fun u => yn (by rw [u]))]
    · rw [if_neg (fun y => c (k5.mp (e5.mp y))), decide_eq_false (by omega)]

theorem mw_5 (h : mTs w I L D R m) : fX12_isWord w I L D R (206276 : Int64) = some (decide (m = 5), I, L, D, R) := h.1 (206276, 5) (by decide)
theorem mw_6 (h : mTs w I L D R m) : fX12_isWord w I L D R (16322738 : Int64) = some (decide (m = 6), I, L, D, R) := h.1 (16322738, 6) (by decide)
theorem mw_7 (h : mTs w I L D R m) : fX12_isWord w I L D R (147182 : Int64) = some (decide (m = 7), I, L, D, R) := h.1 (147182, 7) (by decide)
theorem mw_8 (h : mTs w I L D R m) : fX12_isWord w I L D R (6605428 : Int64) = some (decide (m = 8), I, L, D, R) := h.1 (6605428, 8) (by decide)
theorem mw_9 (h : mTs w I L D R m) : fX12_isWord w I L D R (212356 : Int64) = some (decide (m = 9), I, L, D, R) := h.1 (212356, 9) (by decide)
theorem mw_10 (h : mTs w I L D R m) : fX12_isWord w I L D R (3659220 : Int64) = some (decide (m = 10), I, L, D, R) := h.1 (3659220, 10) (by decide)
theorem mw_11 (h : mTs w I L D R m) : fX12_isWord w I L D R (20141 : Int64) = some (decide (m = 11), I, L, D, R) := h.1 (20141, 11) (by decide)
theorem mw_12 (h : mTs w I L D R m) : fX12_isWord w I L D R (431150 : Int64) = some (decide (m = 12), I, L, D, R) := h.1 (431150, 12) (by decide)
theorem mw_13 (h : mTs w I L D R m) : fX12_isWord w I L D R (24385093 : Int64) = some (decide (m = 13), I, L, D, R) := h.1 (24385093, 13) (by decide)
theorem mw_14 (h : mTs w I L D R m) : fX12_isWord w I L D R (89 : Int64) = some (decide (m = 14), I, L, D, R) := h.1 (89, 14) (by decide)
theorem mw_15 (h : mTs w I L D R m) : fX12_isWord w I L D R (19636 : Int64) = some (decide (m = 15), I, L, D, R) := h.1 (19636, 15) (by decide)
theorem mw_16 (h : mTs w I L D R m) : fX12_isWord w I L D R (18935 : Int64) = some (decide (m = 16), I, L, D, R) := h.1 (18935, 16) (by decide)
theorem mw_17 (h : mTs w I L D R m) : fX12_isWord w I L D R (25779 : Int64) = some (decide (m = 17), I, L, D, R) := h.1 (25779, 17) (by decide)
theorem mw_18 (h : mTs w I L D R m) : fX12_isWord w I L D R (463 : Int64) = some (decide (m = 18), I, L, D, R) := h.1 (463, 18) (by decide)
theorem mw_19 (h : mTs w I L D R m) : fX12_isWord w I L D R (14836 : Int64) = some (decide (m = 19), I, L, D, R) := h.1 (14836, 19) (by decide)
theorem mw_20 (h : mTs w I L D R m) : fX12_isWord w I L D R (498 : Int64) = some (decide (m = 20), I, L, D, R) := h.1 (498, 20) (by decide)
theorem mw_21 (h : mTs w I L D R m) : fX12_isWord w I L D R (1476 : Int64) = some (decide (m = 21), I, L, D, R) := h.1 (1476, 21) (by decide)
theorem mw_22 (h : mTs w I L D R m) : fX12_isWord w I L D R (1107 : Int64) = some (decide (m = 22), I, L, D, R) := h.1 (1107, 22) (by decide)
theorem mw_23 (h : mTs w I L D R m) : fX12_isWord w I L D R (6700530 : Int64) = some (decide (m = 23), I, L, D, R) := h.1 (6700530, 23) (by decide)
theorem mw_24 (h : mTs w I L D R m) : fX12_isWord w I L D R (103724 : Int64) = some (decide (m = 24), I, L, D, R) := h.1 (103724, 24) (by decide)
theorem mw_25 (h : mTs w I L D R m) : fX12_isWord w I L D R (599508 : Int64) = some (decide (m = 25), I, L, D, R) := h.1 (599508, 25) (by decide)
theorem mw_26 (h : mTs w I L D R m) : fX12_isWord w I L D R (632046 : Int64) = some (decide (m = 26), I, L, D, R) := h.1 (632046, 26) (by decide)
theorem mw_27 (h : mTs w I L D R m) : fX12_isWord w I L D R (13614 : Int64) = some (decide (m = 27), I, L, D, R) := h.1 (13614, 27) (by decide)
theorem mw_28 (h : mTs w I L D R m) : fX12_isWord w I L D R (13368 : Int64) = some (decide (m = 28), I, L, D, R) := h.1 (13368, 28) (by decide)
theorem mw_29 (h : mTs w I L D R m) : fX12_isWord w I L D R (91781 : Int64) = some (decide (m = 29), I, L, D, R) := h.1 (91781, 29) (by decide)
theorem mw_30 (h : mTs w I L D R m) : fX12_isWord w I L D R (20201044 : Int64) = some (decide (m = 30), I, L, D, R) := h.1 (20201044, 30) (by decide)
theorem mw_31 (h : mTs w I L D R m) : fX12_isWord w I L D R (106546 : Int64) = some (decide (m = 31), I, L, D, R) := h.1 (106546, 31) (by decide)
theorem mw_32 (h : mTs w I L D R m) : fX12_isWord w I L D R (9684 : Int64) = some (decide (m = 32), I, L, D, R) := h.1 (9684, 32) (by decide)
theorem mw_33 (h : mTs w I L D R m) : fX12_isWord w I L D R (409031 : Int64) = some (decide (m = 33), I, L, D, R) := h.1 (409031, 33) (by decide)
theorem mw_34 (h : mTs w I L D R m) : fX12_isWord w I L D R (6700084 : Int64) = some (decide (m = 34), I, L, D, R) := h.1 (6700084, 34) (by decide)
theorem mw_35 (h : mTs w I L D R m) : fX12_isWord w I L D R (150636933 : Int64) = some (decide (m = 35), I, L, D, R) := h.1 (150636933, 35) (by decide)
theorem ms_36 (h : mTs w I L D R m) : fX12_is w I L D R (61 : Int32) = some (decide (m = 36), I, L, D, R) := by
  have e : fX12_isSign w I L D R (61 : Int32) (0 : Int32) (0 : Int32) = some (decide (m = 36), I, L, D, R) := h.2 36 (by decide) (by decide)
  unfold fX12_is
  rw [e, qc_bds]
theorem ms_38 (h : mTs w I L D R m) : fX12_is w I L D R (60 : Int32) = some (decide (m = 38), I, L, D, R) := by
  have e : fX12_isSign w I L D R (60 : Int32) (0 : Int32) (0 : Int32) = some (decide (m = 38), I, L, D, R) := h.2 38 (by decide) (by decide)
  unfold fX12_is
  rw [e, qc_bds]
theorem ms_39 (h : mTs w I L D R m) : fX12_is w I L D R (62 : Int32) = some (decide (m = 39), I, L, D, R) := by
  have e : fX12_isSign w I L D R (62 : Int32) (0 : Int32) (0 : Int32) = some (decide (m = 39), I, L, D, R) := h.2 39 (by decide) (by decide)
  unfold fX12_is
  rw [e, qc_bds]
theorem ms_42 (h : mTs w I L D R m) : fX12_is w I L D R (38 : Int32) = some (decide (m = 42), I, L, D, R) := by
  have e : fX12_isSign w I L D R (38 : Int32) (0 : Int32) (0 : Int32) = some (decide (m = 42), I, L, D, R) := h.2 42 (by decide) (by decide)
  unfold fX12_is
  rw [e, qc_bds]
theorem ms_43 (h : mTs w I L D R m) : fX12_is w I L D R (124 : Int32) = some (decide (m = 43), I, L, D, R) := by
  have e : fX12_isSign w I L D R (124 : Int32) (0 : Int32) (0 : Int32) = some (decide (m = 43), I, L, D, R) := h.2 43 (by decide) (by decide)
  unfold fX12_is
  rw [e, qc_bds]
theorem ms_44 (h : mTs w I L D R m) : fX12_is w I L D R (94 : Int32) = some (decide (m = 44), I, L, D, R) := by
  have e : fX12_isSign w I L D R (94 : Int32) (0 : Int32) (0 : Int32) = some (decide (m = 44), I, L, D, R) := h.2 44 (by decide) (by decide)
  unfold fX12_is
  rw [e, qc_bds]
theorem ms_48 (h : mTs w I L D R m) : fX12_is w I L D R (43 : Int32) = some (decide (m = 48), I, L, D, R) := by
  have e : fX12_isSign w I L D R (43 : Int32) (0 : Int32) (0 : Int32) = some (decide (m = 48), I, L, D, R) := h.2 48 (by decide) (by decide)
  unfold fX12_is
  rw [e, qc_bds]
theorem ms_49 (h : mTs w I L D R m) : fX12_is w I L D R (45 : Int32) = some (decide (m = 49), I, L, D, R) := by
  have e : fX12_isSign w I L D R (45 : Int32) (0 : Int32) (0 : Int32) = some (decide (m = 49), I, L, D, R) := h.2 49 (by decide) (by decide)
  unfold fX12_is
  rw [e, qc_bds]
theorem ms_50 (h : mTs w I L D R m) : fX12_is w I L D R (42 : Int32) = some (decide (m = 50), I, L, D, R) := by
  have e : fX12_isSign w I L D R (42 : Int32) (0 : Int32) (0 : Int32) = some (decide (m = 50), I, L, D, R) := h.2 50 (by decide) (by decide)
  unfold fX12_is
  rw [e, qc_bds]
theorem ms_51 (h : mTs w I L D R m) : fX12_is w I L D R (47 : Int32) = some (decide (m = 51), I, L, D, R) := by
  have e : fX12_isSign w I L D R (47 : Int32) (0 : Int32) (0 : Int32) = some (decide (m = 51), I, L, D, R) := h.2 51 (by decide) (by decide)
  unfold fX12_is
  rw [e, qc_bds]
theorem ms_52 (h : mTs w I L D R m) : fX12_is w I L D R (37 : Int32) = some (decide (m = 52), I, L, D, R) := by
  have e : fX12_isSign w I L D R (37 : Int32) (0 : Int32) (0 : Int32) = some (decide (m = 52), I, L, D, R) := h.2 52 (by decide) (by decide)
  unfold fX12_is
  rw [e, qc_bds]
theorem ms_53 (h : mTs w I L D R m) : fX12_is w I L D R (126 : Int32) = some (decide (m = 53), I, L, D, R) := by
  have e : fX12_isSign w I L D R (126 : Int32) (0 : Int32) (0 : Int32) = some (decide (m = 53), I, L, D, R) := h.2 53 (by decide) (by decide)
  unfold fX12_is
  rw [e, qc_bds]
theorem ms_54 (h : mTs w I L D R m) : fX12_is w I L D R (40 : Int32) = some (decide (m = 54), I, L, D, R) := by
  have e : fX12_isSign w I L D R (40 : Int32) (0 : Int32) (0 : Int32) = some (decide (m = 54), I, L, D, R) := h.2 54 (by decide) (by decide)
  unfold fX12_is
  rw [e, qc_bds]
theorem ms_55 (h : mTs w I L D R m) : fX12_is w I L D R (41 : Int32) = some (decide (m = 55), I, L, D, R) := by
  have e : fX12_isSign w I L D R (41 : Int32) (0 : Int32) (0 : Int32) = some (decide (m = 55), I, L, D, R) := h.2 55 (by decide) (by decide)
  unfold fX12_is
  rw [e, qc_bds]
theorem ms_56 (h : mTs w I L D R m) : fX12_is w I L D R (91 : Int32) = some (decide (m = 56), I, L, D, R) := by
  have e : fX12_isSign w I L D R (91 : Int32) (0 : Int32) (0 : Int32) = some (decide (m = 56), I, L, D, R) := h.2 56 (by decide) (by decide)
  unfold fX12_is
  rw [e, qc_bds]
theorem ms_57 (h : mTs w I L D R m) : fX12_is w I L D R (93 : Int32) = some (decide (m = 57), I, L, D, R) := by
  have e : fX12_isSign w I L D R (93 : Int32) (0 : Int32) (0 : Int32) = some (decide (m = 57), I, L, D, R) := h.2 57 (by decide) (by decide)
  unfold fX12_is
  rw [e, qc_bds]
theorem ms_58 (h : mTs w I L D R m) : fX12_is w I L D R (44 : Int32) = some (decide (m = 58), I, L, D, R) := by
  have e : fX12_isSign w I L D R (44 : Int32) (0 : Int32) (0 : Int32) = some (decide (m = 58), I, L, D, R) := h.2 58 (by decide) (by decide)
  unfold fX12_is
  rw [e, qc_bds]
theorem ms_59 (h : mTs w I L D R m) : fX12_is w I L D R (63 : Int32) = some (decide (m = 59), I, L, D, R) := by
  have e : fX12_isSign w I L D R (63 : Int32) (0 : Int32) (0 : Int32) = some (decide (m = 59), I, L, D, R) := h.2 59 (by decide) (by decide)
  unfold fX12_is
  rw [e, qc_bds]
theorem ms_60 (h : mTs w I L D R m) : fX12_is w I L D R (58 : Int32) = some (decide (m = 60), I, L, D, R) := by
  have e : fX12_isSign w I L D R (58 : Int32) (0 : Int32) (0 : Int32) = some (decide (m = 60), I, L, D, R) := h.2 60 (by decide) (by decide)
  unfold fX12_is
  rw [e, qc_bds]
theorem ms_37 (h : mTs w I L D R m) : fX12_isSign w I L D R (33 : Int32) (61 : Int32) (0 : Int32) = some (decide (m = 37), I, L, D, R) := h.2 37 (by decide) (by decide)
theorem ms_40 (h : mTs w I L D R m) : fX12_isSign w I L D R (60 : Int32) (61 : Int32) (0 : Int32) = some (decide (m = 40), I, L, D, R) := h.2 40 (by decide) (by decide)
theorem ms_41 (h : mTs w I L D R m) : fX12_isSign w I L D R (62 : Int32) (61 : Int32) (0 : Int32) = some (decide (m = 41), I, L, D, R) := h.2 41 (by decide) (by decide)
theorem ms_45 (h : mTs w I L D R m) : fX12_isSign w I L D R (60 : Int32) (60 : Int32) (0 : Int32) = some (decide (m = 45), I, L, D, R) := h.2 45 (by decide) (by decide)
theorem ms_46 (h : mTs w I L D R m) : fX12_isSign w I L D R (62 : Int32) (62 : Int32) (0 : Int32) = some (decide (m = 46), I, L, D, R) := h.2 46 (by decide) (by decide)
theorem ms_47 (h : mTs w I L D R m) : fX12_isSign w I L D R (62 : Int32) (62 : Int32) (62 : Int32) = some (decide (m = 47), I, L, D, R) := h.2 47 (by decide) (by decide)
theorem ms_61 (h : mTs w I L D R m) : fX12_isSign w I L D R (58 : Int32) (61 : Int32) (0 : Int32) = some (decide (m = 61), I, L, D, R) := h.2 61 (by decide) (by decide)
theorem mq_cmp (h : mTs w I L D R m) : fX12_comparison w I L D R = some ((if 36 ≤ m ∧ m ≤ 41 then nI (m - 36) else -1), I, L, D, R) := by
  unfold fX12_comparison
  rw [ms_36 h, qc_bds]
  by_cases c36 : m = 36
  · rw [if_pos (decide_eq_true c36)]; subst c36; rfl
  rw [if_neg (fun z => c36 (of_decide_eq_true z))]
  rw [ms_37 h, qc_bds]
  by_cases c37 : m = 37
  · rw [if_pos (decide_eq_true c37)]; subst c37; rfl
  rw [if_neg (fun z => c37 (of_decide_eq_true z))]
  rw [ms_38 h, qc_bds]
  by_cases c38 : m = 38
  · rw [if_pos (decide_eq_true c38)]; subst c38; rfl
  rw [if_neg (fun z => c38 (of_decide_eq_true z))]
  rw [ms_39 h, qc_bds]
  by_cases c39 : m = 39
  · rw [if_pos (decide_eq_true c39)]; subst c39; rfl
  rw [if_neg (fun z => c39 (of_decide_eq_true z))]
  rw [ms_40 h, qc_bds]
  by_cases c40 : m = 40
  · rw [if_pos (decide_eq_true c40)]; subst c40; rfl
  rw [if_neg (fun z => c40 (of_decide_eq_true z))]
  rw [ms_41 h, qc_bds]
  by_cases c41 : m = 41
  · rw [if_pos (decide_eq_true c41)]; subst c41; rfl
  rw [if_neg (fun z => c41 (of_decide_eq_true z))]
  rw [if_neg (by omega)]
theorem mq_str (h : mTs w I L D R m) : fX12_strengthHere w I L D R = some ((if qs_sv m = 0 then -1 else nI (qs_sv m)), I, L, D, R) := by
  unfold fX12_strengthHere
  rw [mw_20 h, qc_bds]
  by_cases c20 : m = 20
  · rw [if_pos (decide_eq_true c20)]; subst c20; rfl
  rw [if_neg (fun z => c20 (of_decide_eq_true z))]
  rw [mw_21 h, qc_bds]
  by_cases c21 : m = 21
  · rw [if_pos (decide_eq_true c21)]; subst c21; rfl
  rw [if_neg (fun z => c21 (of_decide_eq_true z))]
  rw [mq_cmp h, qc_bds]
  by_cases cc : 36 ≤ m ∧ m ≤ 41
  · rw [if_pos cc, if_neg (qi_nI_m1 (by omega)), show qs_sv m = 4 by unfold qs_sv; rw [if_neg c20, if_neg c21, if_pos cc]]
    rfl
  rw [if_neg cc, if_pos rfl]
  rw [ms_42 h, qc_bds]
  by_cases c42 : m = 42
  · rw [if_pos (decide_eq_true c42)]; subst c42; rfl
  rw [if_neg (fun z => c42 (of_decide_eq_true z))]
  rw [ms_43 h, qc_bds]
  by_cases c43 : m = 43
  · rw [if_pos (decide_eq_true c43)]; subst c43; rfl
  rw [if_neg (fun z => c43 (of_decide_eq_true z))]
  rw [ms_44 h, qc_bds]
  by_cases c44 : m = 44
  · rw [if_pos (decide_eq_true c44)]; subst c44; rfl
  rw [if_neg (fun z => c44 (of_decide_eq_true z))]
  rw [ms_45 h, qc_bds]
  by_cases c45 : m = 45
  · rw [if_pos (decide_eq_true c45)]; subst c45; rfl
  rw [if_neg (fun z => c45 (of_decide_eq_true z))]
  rw [ms_46 h, qc_bds]
  by_cases c46 : m = 46
  · rw [if_pos (decide_eq_true c46)]; subst c46; rfl
  rw [if_neg (fun z => c46 (of_decide_eq_true z))]
  rw [ms_47 h, qc_bds]
  by_cases c47 : m = 47
  · rw [if_pos (decide_eq_true c47)]; subst c47; rfl
  rw [if_neg (fun z => c47 (of_decide_eq_true z))]
  rw [ms_48 h, qc_bds]
  by_cases c48 : m = 48
  · rw [if_pos (decide_eq_true c48)]; subst c48; rfl
  rw [if_neg (fun z => c48 (of_decide_eq_true z))]
  rw [ms_49 h, qc_bds]
  by_cases c49 : m = 49
  · rw [if_pos (decide_eq_true c49)]; subst c49; rfl
  rw [if_neg (fun z => c49 (of_decide_eq_true z))]
  rw [ms_50 h, qc_bds]
  by_cases c50 : m = 50
  · rw [if_pos (decide_eq_true c50)]; subst c50; rfl
  rw [if_neg (fun z => c50 (of_decide_eq_true z))]
  rw [ms_51 h, qc_bds]
  by_cases c51 : m = 51
  · rw [if_pos (decide_eq_true c51)]; subst c51; rfl
  rw [if_neg (fun z => c51 (of_decide_eq_true z))]
  rw [ms_52 h, qc_bds]
  by_cases c52 : m = 52
  · rw [if_pos (decide_eq_true c52)]; subst c52; rfl
  rw [if_neg (fun z => c52 (of_decide_eq_true z))]
  have : qs_sv m = 0 := by
    unfold qs_sv
    rw [if_neg c20, if_neg c21, if_neg cc, if_neg (by omega), if_neg (by omega), if_neg (by omega), if_neg (by omega)]
  rw [if_pos this]
def qs_jo (m : Nat) : Nat := if qs_sv m = 4 then m - 36 else qs_op m
theorem mq_op (h : mTs w I L D R m) (h0 : qs_sv m ≠ 0) (h63 : m < 64) : fX12_opHere w I L D R (nI (qs_sv m)) = some (nI (qs_jo m), I, L, D, R) := by
  have hv : ∀ m, m < 64 → qs_sv m ≠ 0 → m = 20 ∨ m = 21 ∨ (36 ≤ m ∧ m ≤ 52) := by decide
  have hm := hv m h63 h0
  unfold fX12_opHere
  by_cases c1 : 36 ≤ m ∧ m ≤ 41
  · have e4 : qs_sv m = 4 := by unfold qs_sv; rw [if_neg (by omega), if_neg (by omega), if_pos c1]
    rw [e4, if_pos (show nI 4 = 4 from rfl), mq_cmp h, if_pos c1, qc_bds]
    unfold qs_jo
    rw [if_pos e4]
  by_cases c2 : 42 ≤ m ∧ m ≤ 44
  · have e4 : qs_sv m = 5 := by unfold qs_sv; rw [if_neg (by omega), if_neg (by omega), if_neg c1, if_pos c2]
    rw [e4, if_neg (show ¬ nI 5 = 4 by decide), if_pos (show nI 5 = 5 from rfl)]
    rw [ms_42 h, qc_bds]
    by_cases c42 : m = 42
    · rw [if_pos (decide_eq_true c42)]; subst c42; rfl
    rw [if_neg (fun z => c42 (of_decide_eq_true z))]
    rw [ms_43 h, qc_bds]
    by_cases c43 : m = 43
    · rw [if_pos (decide_eq_true c43)]; subst c43; rfl
    rw [if_neg (fun z => c43 (of_decide_eq_true z))]
    rw [show m = 44 by omega]
    rfl
  by_cases c3 : 45 ≤ m ∧ m ≤ 47
  · have e4 : qs_sv m = 6 := by unfold qs_sv; rw [if_neg (by omega), if_neg (by omega), if_neg c1, if_neg c2, if_pos c3]
    rw [e4, if_neg (show ¬ nI 6 = 4 by decide), if_neg (show ¬ nI 6 = 5 by decide), if_pos (show nI 6 = 6 from rfl)]
    rw [ms_45 h, qc_bds]
    by_cases c45 : m = 45
    · rw [if_pos (decide_eq_true c45)]; subst c45; rfl
    rw [if_neg (fun z => c45 (of_decide_eq_true z))]
    rw [ms_46 h, qc_bds]
    by_cases c46 : m = 46
    · rw [if_pos (decide_eq_true c46)]; subst c46; rfl
    rw [if_neg (fun z => c46 (of_decide_eq_true z))]
    rw [show m = 47 by omega]
    rfl
  by_cases c4 : m = 48 ∨ m = 49
  · have e4 : qs_sv m = 7 := by unfold qs_sv; rw [if_neg (by omega), if_neg (by omega), if_neg c1, if_neg c2, if_neg c3, if_pos c4]
    rw [e4, if_neg (show ¬ nI 7 = 4 by decide), if_neg (show ¬ nI 7 = 5 by decide), if_neg (show ¬ nI 7 = 6 by decide), if_pos (show nI 7 = 7 from rfl)]
    rw [ms_48 h, qc_bds]
    by_cases c48 : m = 48
    · rw [if_pos (decide_eq_true c48)]; subst c48; rfl
    rw [if_neg (fun z => c48 (of_decide_eq_true z))]
    rw [show m = 49 by omega]
    rfl
  have e4 : qs_sv m = 1 ∨ qs_sv m = 2 ∨ qs_sv m = 8 := by
    have : ∀ m, m < 64 → m = 20 ∨ m = 21 ∨ (50 ≤ m ∧ m ≤ 52) → qs_sv m = 1 ∨ qs_sv m = 2 ∨ qs_sv m = 8 := by decide
    exact this m h63 (by omega)
  rw [if_neg (by rcases e4 with z | z | z <;> rw [z] <;> decide), if_neg (by rcases e4 with z | z | z <;> rw [z] <;> decide), if_neg (by rcases e4 with z | z | z <;> rw [z] <;> decide), if_neg (by rcases e4 with z | z | z <;> rw [z] <;> decide)]
  rw [ms_50 h, qc_bds]
  by_cases c50 : m = 50
  · rw [if_pos (decide_eq_true c50)]; subst c50; rfl
  rw [if_neg (fun z => c50 (of_decide_eq_true z))]
  rw [ms_51 h, qc_bds]
  by_cases c51 : m = 51
  · rw [if_pos (decide_eq_true c51)]; subst c51; rfl
  rw [if_neg (fun z => c51 (of_decide_eq_true z))]
  rcases (show m = 20 ∨ m = 21 ∨ m = 52 by omega) with z | z | z
  all_goals (subst z; rfl)
theorem mq_cast (h : mTs w I L D R m) : fX12_cast w I L D R = some ((if 29 ≤ m ∧ m ≤ 35 then nI (m - 22) else -1), I, L, D, R) := by
  unfold fX12_cast
  rw [mw_29 h, qc_bds]
  by_cases c29 : m = 29
  · rw [if_pos (decide_eq_true c29)]; subst c29; rfl
  rw [if_neg (fun z => c29 (of_decide_eq_true z))]
  rw [mw_30 h, qc_bds]
  by_cases c30 : m = 30
  · rw [if_pos (decide_eq_true c30)]; subst c30; rfl
  rw [if_neg (fun z => c30 (of_decide_eq_true z))]
  rw [mw_31 h, qc_bds]
  by_cases c31 : m = 31
  · rw [if_pos (decide_eq_true c31)]; subst c31; rfl
  rw [if_neg (fun z => c31 (of_decide_eq_true z))]
  rw [mw_32 h, qc_bds]
  by_cases c32 : m = 32
  · rw [if_pos (decide_eq_true c32)]; subst c32; rfl
  rw [if_neg (fun z => c32 (of_decide_eq_true z))]
  rw [mw_33 h, qc_bds]
  by_cases c33 : m = 33
  · rw [if_pos (decide_eq_true c33)]; subst c33; rfl
  rw [if_neg (fun z => c33 (of_decide_eq_true z))]
  rw [mw_34 h, qc_bds]
  by_cases c34 : m = 34
  · rw [if_pos (decide_eq_true c34)]; subst c34; rfl
  rw [if_neg (fun z => c34 (of_decide_eq_true z))]
  rw [mw_35 h, qc_bds]
  by_cases c35 : m = 35
  · rw [if_pos (decide_eq_true c35)]; subst c35; rfl
  rw [if_neg (fun z => c35 (of_decide_eq_true z))]
  rw [if_neg (by omega)]
theorem mq_fun (h : mTs w I L D R m) : fX12_function w I L D R = some ((if 22 ≤ m ∧ m ≤ 35 then nI (m - 22) else -1), I, L, D, R) := by
  unfold fX12_function
  rw [mw_22 h, qc_bds]
  by_cases c22 : m = 22
  · rw [if_pos (decide_eq_true c22)]; subst c22; rfl
  rw [if_neg (fun z => c22 (of_decide_eq_true z))]
  rw [mw_23 h, qc_bds]
  by_cases c23 : m = 23
  · rw [if_pos (decide_eq_true c23)]; subst c23; rfl
  rw [if_neg (fun z => c23 (of_decide_eq_true z))]
  rw [mw_24 h, qc_bds]
  by_cases c24 : m = 24
  · rw [if_pos (decide_eq_true c24)]; subst c24; rfl
  rw [if_neg (fun z => c24 (of_decide_eq_true z))]
  rw [mw_25 h, qc_bds]
  by_cases c25 : m = 25
  · rw [if_pos (decide_eq_true c25)]; subst c25; rfl
  rw [if_neg (fun z => c25 (of_decide_eq_true z))]
  rw [mw_26 h, qc_bds]
  by_cases c26 : m = 26
  · rw [if_pos (decide_eq_true c26)]; subst c26; rfl
  rw [if_neg (fun z => c26 (of_decide_eq_true z))]
  rw [mw_27 h, qc_bds]
  by_cases c27 : m = 27
  · rw [if_pos (decide_eq_true c27)]; subst c27; rfl
  rw [if_neg (fun z => c27 (of_decide_eq_true z))]
  rw [mw_28 h, qc_bds]
  by_cases c28 : m = 28
  · rw [if_pos (decide_eq_true c28)]; subst c28; rfl
  rw [if_neg (fun z => c28 (of_decide_eq_true z))]
  rw [mq_cast h, qc_bds]
  by_cases c : 29 ≤ m ∧ m ≤ 35
  · rw [if_pos c, if_pos (by omega)]
  · rw [if_neg c, if_neg (by omega)]
end
