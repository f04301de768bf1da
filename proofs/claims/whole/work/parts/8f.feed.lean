/-! feed -/
theorem qi_400 {i : Nat} (h : i < 2 ^ 31) : nI i ≤ (400 : Int32) ↔ i ≤ 400 := qi_le (b := 400) h (by decide)
theorem qi_400l {i : Nat} (h : i < 2 ^ 31) : (400 : Int32) < nI i ↔ 400 < i := qi_lt (a := 400) (by decide) h
def qi_by (x : Int32) (s : Nat) : Int32 := (x >>> (nI s &&& 31)) &&& 255
theorem qi_by_lt {x : Int32} : qc_inb (x &&& 255) 256 = true := by
  have h1 : (x &&& 255).toBitVec.toNat ≤ 255 := by
    show (x.toBitVec &&& 255#32).toNat ≤ 255
    rw [BitVec.toNat_and]
    exact Nat.and_le_right
  rw [qi_inb_iff]
  have h2 : (x &&& 255).toInt = ((x &&& 255).toBitVec.toNat : Int) := by
    show ((x &&& 255).toBitVec).toInt = _
    rw [BitVec.toInt_eq_toNat_of_lt (by omega)]
  rw [h2]
  omega
theorem qi_shs {x : Int32} {s : Nat} (hs : s = 24 ∨ s = 16 ∨ s = 8 ∨ s = 0) : (UInt32.toInt32 (Int32.toUInt32 x >>> (Int32.toUInt32 (nI s) &&& Int32.toUInt32 31))) &&& 255 = qi_by x s := by
  have key : ∀ k : Nat, k ≤ 24 → (x.toBitVec >>> k) &&& 255#32 = (x.toBitVec.sshiftRight k) &&& 255#32 := by
    intro k hk
    apply BitVec.eq_of_getLsbD_eq
    intro i hi
    rw [BitVec.getLsbD_and, BitVec.getLsbD_and]
    by_cases h8 : i < 8
    · rw [BitVec.getLsbD_ushiftRight, BitVec.getLsbD_sshiftRight]
      rw [show (decide (32 ≤ i)) = false from decide_eq_false (by omega)]
      simp only [Bool.not_false, Bool.true_and]
      rw [if_pos (by omega)]
    · have : (255#32).getLsbD i = false := by
        have h9 : ∀ i, i < 32 → ¬ i < 8 → (255#32).getLsbD i = false := by decide
        exact h9 i hi h8
      rw [this, Bool.and_false, Bool.and_false]
  unfold qi_by
  apply Int32.toBitVec_inj.mp
  rcases hs with rfl | rfl | rfl | rfl
  · exact key 24 (by decide)
  · exact key 16 (by decide)
  · exact key 8 (by decide)
  · exact key 0 (by decide)
/-- bytes laid behind each other -/
def qi_fd (f : Nat → Int32) (n : Nat) : List Int32 → Nat → Int32
  | [] => f
  | b :: r => qi_fd (qi_up f n b) (n + 1) r
theorem qi_fd_app : ∀ (a b : List Int32) (f : Nat → Int32) (n : Nat), qi_fd (qi_fd f n a) (n + a.length) b = qi_fd f n (a ++ b)
  | [], b, f, n => rfl
  | x :: r, b, f, n => by
    show qi_fd (qi_fd (qi_up f n x) (n + 1) r) (n + (r.length + 1)) b = qi_fd (qi_up f n x) (n + 1) (r ++ b)
    rw [← qi_fd_app r b, show n + (r.length + 1) = n + 1 + r.length by omega]
theorem qi_fd_rel : ∀ (a : List Int32) (f g : Nat → Int32) (n : Nat), (∀ b ∈ a, qc_inb b 256 = true) → (∀ k, k < 400 → f k = g k ∧ qc_inb (f k) 256 = true) → ∀ k, k < 400 → qi_fd f n a k = qi_fd g n a k ∧ qc_inb (qi_fd f n a k) 256 = true
  | [], f, g, n, _, h => h
  | x :: r, f, g, n, ha, h => by
    refine qi_fd_rel r (qi_up f n x) (qi_up g n x) (n + 1) (fun b hb => ha b (List.mem_cons_of_mem _ hb)) (fun k hk => ?_)
    unfold qi_up
    split
    · exact ⟨rfl, ha x List.mem_cons_self⟩
    · exact h k hk
def qi_b4 (x : Int32) : List Int32 := [qi_by x 24, qi_by x 16, qi_by x 8, qi_by x 0]
theorem qi_b4_in (x : Int32) : ∀ b ∈ qi_b4 x, qc_inb b 256 = true := by
  intro b hb
  unfold qi_b4 qi_by at hb
  simp only [List.mem_cons, List.not_mem_nil, or_false] at hb
  rcases hb with rfl | rfl | rfl | rfl <;> exact qi_by_lt
section
variable {w : qcW} {I : qTI} {L : qTL} {D : qTD} {R : qTR}
theorem fx_ap1 {x : Int32} {n s : Nat} (k : Nat) (g : Nat → Int32) (hn : n < 400) (hs : s = 24 ∨ s = 16 ∨ s = 8 ∨ s = 0) : fX10_append_l3 w (k + 1) (qi_rr (qc_u I 265 1 (nI n)) 266 g, L, D, R, x, nI s) = fX10_append_l3 w k (qi_rr (qc_u I 265 1 (nI (n + 1))) 266 (qi_up g n (qi_by x s)), L, D, R, x, nI s + -8) := by
  rw [fX10_append_l3_s]
  unfold fX10_append_b3 fX10_append_b43
  have e1 : (qi_rr (qc_u I 265 1 (nI n)) 266 g) 265 1 = nI n := by rw [qi_rr_off _ _ (by decide), qc_u_at]
  rw [e1, if_neg (nI_pos (by omega)), if_neg (fun q => by have := (qi_le (a := 400) (by decide) (by omega)).mp q; omega), qi_inbN hn (by decide), qc_gdt, nI_clamp (by omega), qi_shs hs, qi_rr_u]
  have e2 : (qi_rr (qc_u I 265 1 (nI n)) 266 (qi_up g n (qi_by x s))) 265 1 = nI n := by rw [qi_rr_off _ _ (by decide), qc_u_at]
  rw [e2, qi_s1]
  congr 2
  funext b
  by_cases h5 : b = 265
  · subst h5
    rw [qi_u_on, qi_rr_off _ _ (by decide), qi_rr_off _ _ (by decide), qi_u_on, qi_u_on]
    funext j
    unfold qi_up
    split <;> rfl
  · rw [qc_u_off _ _ h5]
    by_cases h6 : b = 266
    · subst h6
      rw [qi_rr_on, qi_rr_on]
    · rw [qi_rr_off _ _ h6, qi_rr_off _ _ h6, qc_u_off _ _ h5, qc_u_off _ _ h5]
theorem fx_append {x : Int32} {n : Nat} (g : Nat → Int32) (hn : n + 4 ≤ 400) : fX10_append w (qi_rr (qc_u I 265 1 (nI n)) 266 g) L D R x = some ((), qi_rr (qc_u I 265 1 (nI (n + 4))) 266 (qi_fd g n (qi_b4 x)), L, D, R) := by
  unfold fX10_append
  have hF : qcF = (qcF - 5) + 1 + 1 + 1 + 1 + 1 := by unfold qcF; omega
  rw [hF, show (24 : Int32) = nI 24 by decide, fx_ap1 _ _ (by omega) (Or.inl rfl), show nI 24 + -8 = nI 16 by decide, fx_ap1 _ _ (by omega) (Or.inr (Or.inl rfl)), show nI 16 + -8 = nI 8 by decide, fx_ap1 _ _ (by omega) (Or.inr (Or.inr (Or.inl rfl))), show nI 8 + -8 = nI 0 by decide, fx_ap1 _ _ (by omega) (Or.inr (Or.inr (Or.inr rfl))), fX10_append_l3_s]
  unfold fX10_append_b3
  rw [if_pos (by decide)]
  rfl
theorem fm_ap1 {x : Int32} {n s : Nat} (k : Nat) (g : Nat → Int32) (hn : n < 400) (hs : s ≤ 24) : fX12_four_l3 w (k + 1) (qi_rr (qc_u I 291 7 (nI n)) 297 g, L, D, R, x, nI s) = fX12_four_l3 w k (qi_rr (qc_u I 291 7 (nI (n + 1))) 297 (qi_up g n (qi_by x s)), L, D, R, x, nI s + -8) := by
  rw [fX12_four_l3_s]
  unfold fX12_four_b3
  have e1 : (qi_rr (qc_u I 291 7 (nI n)) 297 g) 291 7 = nI n := by rw [qi_rr_off _ _ (by decide), qc_u_at]
  rw [e1, if_neg (nI_pos (by omega)), qi_inbN hn (by decide), qc_gdt, nI_clamp (by omega), qi_rr_u]
  have e2 : (qi_rr (qc_u I 291 7 (nI n)) 297 (qi_up g n ((x >>> (nI s &&& 31)) &&& 255))) 291 7 = nI n := by rw [qi_rr_off _ _ (by decide), qc_u_at]
  rw [e2, qi_s1]
  congr 2
  funext b
  by_cases h5 : b = 291
  · subst h5
    rw [qi_u_on, qi_rr_off _ _ (by decide), qi_rr_off _ _ (by decide), qi_u_on, qi_u_on]
    funext j
    unfold qi_up
    split <;> rfl
  · rw [qc_u_off _ _ h5]
    by_cases h6 : b = 297
    · subst h6
      rw [qi_rr_on, qi_rr_on]
      rfl
    · rw [qi_rr_off _ _ h6, qi_rr_off _ _ h6, qc_u_off _ _ h5, qc_u_off _ _ h5]
theorem fm_four {x : Int32} {n : Nat} (g : Nat → Int32) (hn : n + 4 ≤ 400) : fX12_four w (qi_rr (qc_u I 291 7 (nI n)) 297 g) L D R x = some ((), qi_rr (qc_u I 291 7 (nI (n + 4))) 297 (qi_fd g n (qi_b4 x)), L, D, R) := by
  unfold fX12_four
  have hF : qcF = (qcF - 5) + 1 + 1 + 1 + 1 + 1 := by unfold qcF; omega
  rw [hF, show (24 : Int32) = nI 24 by decide, fm_ap1 _ _ (by omega) (by decide), show nI 24 + -8 = nI 16 by decide, fm_ap1 _ _ (by omega) (by decide), show nI 16 + -8 = nI 8 by decide, fm_ap1 _ _ (by omega) (by decide), show nI 8 + -8 = nI 0 by decide, fm_ap1 _ _ (by omega) (by decide), fX12_four_l3_s]
  unfold fX12_four_b3
  rw [if_pos (by decide)]
  rfl
theorem qi_start {a k r : Nat} {v : Int32} (hk : I a k = v) (hr : r ≠ a) : qi_rr (qc_u I a k v) r (I r) = I := by
  funext b
  by_cases h : b = r
  · rw [h, qi_rr_on]
  · rw [qi_rr_off _ _ h]
    by_cases h2 : b = a
    · rw [h2, qi_u_on]
      funext j
      unfold qi_up
      split
      · rename_i h3
        rw [h3, hk]
      · rfl
    · rw [qc_u_off _ _ h2]
theorem qi_fd5 (g : Nat → Int32) (n : Nat) (a b c d e : Int32) : qi_fd (qi_fd (qi_fd (qi_fd (qi_fd g n (qi_b4 a)) (n + 4) (qi_b4 b)) (n + 4 + 4) (qi_b4 c)) (n + 4 + 4 + 4) (qi_b4 d)) (n + 4 + 4 + 4 + 4) (qi_b4 e) = qi_fd g n (qi_b4 a ++ qi_b4 b ++ qi_b4 c ++ qi_b4 d ++ qi_b4 e) := by
  have l1 : n + 4 = n + (qi_b4 a).length := rfl
  have l2 : n + 4 + 4 = n + (qi_b4 a ++ qi_b4 b).length := rfl
  have l3 : n + 4 + 4 + 4 = n + (qi_b4 a ++ qi_b4 b ++ qi_b4 c).length := rfl
  have l4 : n + 4 + 4 + 4 + 4 = n + (qi_b4 a ++ qi_b4 b ++ qi_b4 c ++ qi_b4 d).length := rfl
  rw [l4, l3, l2, l1, qi_fd_app, qi_fd_app, qi_fd_app, qi_fd_app]
theorem pp_feed (h : Inv w (I, L, D, R)) (a b c d e : Int32) : qv_pp w (fun I L D R => fX11_feed w I L D R a b c d e) (fun I L D R => fX12_feed w I L D R a b c d e) (I, L, D, R) := by
  obtain ⟨t1, t2, t3⟩ := h.2.2.2.2.1
  obtain ⟨n, hn, hn2, -⟩ := qi_k t2 (by decide)
  have hX : I 265 1 = nI n := hn2
  have hM : I 291 7 = nI n := t1.symm.trans hn2
  have e20 : nI n + 20 = nI (n + 20) := nI_add n 20
  by_cases hr : n + 20 ≤ 400
  · have f1 : fX11_feed w I L D R a b c d e = some (nI (n + 20), qi_rr (qc_u I 265 1 (nI (n + 20))) 266 (qi_fd (I 266) n (qi_b4 a ++ qi_b4 b ++ qi_b4 c ++ qi_b4 d ++ qi_b4 e)), L, D, R) := by
      unfold fX11_feed fX10_hasRoom
      rw [hX, e20, if_neg (fun q => by have := (qi_400l (by omega)).mp q; omega), qc_bds, if_pos rfl]
      rw [← qi_start (r := 266) hX (by decide)]
      simp only [fx_append (w := w) (I := I) (L := L) (D := D) (R := R) (n := n) _ (by omega), qc_bds]
      simp only [fx_append (w := w) (I := I) (L := L) (D := D) (R := R) (n := n + 4) _ (by omega), qc_bds]
      simp only [fx_append (w := w) (I := I) (L := L) (D := D) (R := R) (n := n + 4 + 4) _ (by omega), qc_bds]
      simp only [fx_append (w := w) (I := I) (L := L) (D := D) (R := R) (n := n + 4 + 4 + 4) _ (by omega), qc_bds]
      simp only [fx_append (w := w) (I := I) (L := L) (D := D) (R := R) (n := n + 4 + 4 + 4 + 4) _ (by omega), qc_bds]
      rw [qi_fd5, qi_rr_off _ _ (show 265 ≠ 266 by decide), qc_u_at, qi_start (r := 266) hX (by decide)]
    generalize hI1 : qi_rr (qc_u I 265 1 (nI (n + 20))) 266 (qi_fd (I 266) n (qi_b4 a ++ qi_b4 b ++ qi_b4 c ++ qi_b4 d ++ qi_b4 e)) = J at f1
    have j1 : J 291 = I 291 := by rw [← hI1, qi_rr_off _ _ (by decide), qc_u_off _ _ (by decide)]
    have j2 : J 297 = I 297 := by rw [← hI1, qi_rr_off _ _ (by decide), qc_u_off _ _ (by decide)]
    have hJ : J 291 7 = nI n := by rw [j1]; exact hM
    have f2 : fX12_feed w J L D R a b c d e = some (nI (n + 20), qi_rr (qc_u J 291 7 (nI (n + 20))) 297 (qi_fd (J 297) n (qi_b4 a ++ qi_b4 b ++ qi_b4 c ++ qi_b4 d ++ qi_b4 e)), L, D, R) := by
      unfold fX12_feed
      rw [hJ, e20, if_pos ((qi_400 (by omega)).mpr hr)]
      rw [← qi_start (r := 297) hJ (by decide)]
      simp only [fm_four (w := w) (I := J) (L := L) (D := D) (R := R) (n := n) _ (by omega), qc_bds]
      simp only [fm_four (w := w) (I := J) (L := L) (D := D) (R := R) (n := n + 4) _ (by omega), qc_bds]
      simp only [fm_four (w := w) (I := J) (L := L) (D := D) (R := R) (n := n + 4 + 4) _ (by omega), qc_bds]
      simp only [fm_four (w := w) (I := J) (L := L) (D := D) (R := R) (n := n + 4 + 4 + 4) _ (by omega), qc_bds]
      simp only [fm_four (w := w) (I := J) (L := L) (D := D) (R := R) (n := n + 4 + 4 + 4 + 4) _ (by omega), qc_bds]
      rw [qi_fd5, qi_rr_off _ _ (show 291 ≠ 297 by decide), qc_u_at, qi_start (r := 297) hJ (by decide)]
    refine ⟨_, _, _, _, _, _, _, _, _, f1, f2, fun _ => ?_⟩
    refine Inv.tape h (fun x h1 h2 h3 h4 => ?_) (fun k hk => ?_) ⟨?_, ?_, fun k hk => ?_⟩
    · rw [qi_rr_off _ _ h3, qc_u_off _ _ h4, ← hI1, qi_rr_off _ _ h2, qc_u_off _ _ h1]
    · rw [qi_rr_off _ _ (by decide), qc_u_ne _ _ (Or.inr hk), j1]
    · rw [qi_rr_off _ _ (by decide), qc_u_off _ _ (by decide), qi_rr_off _ _ (by decide), qc_u_at, ← hI1, qi_rr_off _ _ (by decide), qc_u_at]
    · rw [qi_rr_off _ _ (by decide), qc_u_off _ _ (by decide), ← hI1, qi_rr_off _ _ (by decide), qc_u_at]
      exact qi_inbN (by omega) (by decide)
    · rw [qi_rr_on, qi_rr_off _ _ (by decide), qc_u_off _ _ (by decide), j2]
      have : J 266 = qi_fd (I 266) n (qi_b4 a ++ qi_b4 b ++ qi_b4 c ++ qi_b4 d ++ qi_b4 e) := by rw [← hI1, qi_rr_on]
      rw [this]
      refine qi_fd_rel _ _ _ _ (fun x hx => ?_) t3 k hk
      simp only [List.mem_append] at hx
      rcases hx with (((hx | hx) | hx) | hx) | hx <;> exact qi_b4_in _ _ hx
  · refine qv_same h (-2) ?_ ?_
    · unfold fX11_feed fX10_hasRoom
      rw [hX, e20, if_pos ((qi_400l (by omega)).mpr (by omega)), qc_bds, qf_ff]
    · unfold fX12_feed
      rw [hM, e20, if_neg (fun q => by have := (qi_400 (by omega)).mp q; omega)]
end
