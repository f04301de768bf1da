/-! reading and writing fields and rows of own cells -/
section QCA
variable {R0 : Room} {mi : qcI} {QQ : qcQ} {cu su : Nat} {w : qcW} {pc pc' : Nat} {lv : List (Nat × Value)} {st : List Value} {M M' : qcM} {a a0 b0 : Nat} {v : Value} {I : Nat → Nat → Int32} {L : Nat → Nat → Int64} {D : Nat → Nat → UInt64} {R : Nat → Nat → Nat} {NL : Nat}
theorem qc_aux_get {o n ci k : Nat} {v : Value} (h : qc_aux o (.getfield n) ci k v = true) (hc : ci < 11) : qc_flL.any (fun q => Nat.beq q.1 o && Nat.beq q.2.1 n && Nat.beq q.2.2.1 ci && Nat.beq q.2.2.2.1 k) = true := by
  unfold qc_aux at h
  simp only [Bool.or_eq_true, Bool.and_eq_true] at h
  rcases h with (h | h) | h
  · simpa using h
  · have := Nat.eq_of_beq_eq_true h.1
    omega
  · have := Nat.eq_of_beq_eq_true h
    omega
theorem qc_gV {i ci k : Nat} {z : Value} (hd : qc_d mi (pc, pc', .getfield i, ci, k, v)) (ha : qc_ki w a ci) (hz : ∀ f, qc_fv f M a k (qc_tc ci k) = qc_cv f z) (kk : qc_X R0 mi QQ cu su w (pc', lv, z :: st, M)) : qc_X R0 mi QQ cu su w (pc, lv, .ref a :: st, M) := by
  obtain ⟨rfl, hdg⟩ := hd.of (n := 2) rfl
  have hx := qc_aux_get hd.aux ha.1
  intro p l e s m args below meth c0 g H locs ls C D S L
  obtain ⟨h1, h2, h3⟩ := qc_fl_use hx C.2.2.2.2.2.1 C.2.2.2.2.2.2.2.2
  have he := ha.get D.1
  have hc : qcCl[ci]? = some ((qc_clT ci).1, (qc_clT ci).2.1, qc_nf ci) := by rw [(qc_cl1 h1).1, ← (qc_cl1 h1).2]
  have c2 := qc_c2 h1 h2
  have kk2 := kk p l e s m args below meth c0 g H locs ls C D S L
  have hv := qc_fs_get g.2.2.1 M a ci h2
  rw [hz g.2.2.1] at hv
  rcases h3 with h3 | h3
  · exact va_get C.1 C.2.1 C.2.2.2.2.2.1 (qc_c4 h1) C.2.2.2.2.1 D.1.2.2.2.2.1 D.1.2.2.2.1 (a - 256) he hc k h2 h3 (fun x h => by rw [c2.1] at h; exact h) hv hdg kk2
  · exact va_getN C.1 C.2.1 C.2.2.2.2.2.1 (qc_c4 h1) C.2.2.2.2.1 D.1.2.2.2.2.1 D.1.2.2.2.1 (a - 256) he hc k h2 h3 (fun x h => by rw [c2.1] at h; exact h) hv hdg kk2
theorem qc_pV {i ci k : Nat} {z : Value} (hd : qc_d mi (pc, pc', .putfield i, ci, k, v)) (ha : qc_ki w a ci) (hf : qc_fz ci k % 2 = 0) (hn : ∀ f, narrow (qc_tyF ci k) (qc_cv f z) = qc_cv f z) (hfit : ∀ f, fits (qc_tyF ci k) (qc_cv f z) = true)
    (h1 : ∀ f, qc_fv f M' a k (qc_tc ci k) = qc_cv f z) (h2 : ∀ f j, j ≠ k → qc_fv f M' a j (qc_tc ci j) = qc_fv f M a j (qc_tc ci j)) (ho : ∀ g kd ln b, b ≠ a → qc_cell g kd ln M' b = qc_cell g kd ln M b) (kk : qc_X R0 mi QQ cu su w (pc', lv, st, M')) : qc_X R0 mi QQ cu su w (pc, lv, z :: .ref a :: st, M) := by
  obtain ⟨rfl, hdg⟩ := hd.of (n := 2) rfl
  have hx := hd.aux
  intro p l e s m args below meth c0 g H locs ls C D S L
  obtain ⟨q1, q2, q3⟩ := qc_fl_use hx C.2.2.2.2.2.1 C.2.2.2.2.2.2.2.2
  have he := ha.get D.1
  have hc : qcCl[ci]? = some ((qc_clT ci).1, (qc_clT ci).2.1, qc_nf ci) := by rw [(qc_cl1 q1).1, ← (qc_cl1 q1).2]
  have c2 := qc_c2 q1 q2
  have hfin : ((qc_clT ci).2.1 k).2.2.2 = false := by rw [c2.2.2.2, hf]; rfl
  have hk : w.2.1 a = ci := by
    rcases ha.2.2.2 with h4 | ⟨h5, h6⟩
    · exact h4
    · rw [(D.1.2.2.2.2.2.1 a ha.2.2.1 ha.2.1 h5).1]; exact h6
  have fin : ∀ (H1 : Heap) (locs1 : List Loc), H1.size = H.size → va_P g.1 qcCl ((qc_wl g w M).set (a - 256) (g.2.2.1 a, .inr (ci, ((List.range (qc_nf ci)).map (fun k => qc_fv g.2.2.1 M a k (qc_tc ci k))).set k (qc_cv g.2.2.1 z)))) H1 → va_S (qc_own g) s.heap H1 locs1 → W p l e R0 s m args below meth c0 H1 locs1 cu su (QQ g below args s) (F0 m (pc + 3) ls (st.map (qc_cv g.2.2.1))) := by
    intro H1 locs1 hz hP hS
    refine kk p l e s m args below meth c0 g H1 locs1 ls C (qc_WD.put D ha.2.1 ha.2.2.1 hz hP hS S ?_ (fun b hb => ho g _ _ b hb)) hS L
    rw [hk, qc_cellO g _ M' a q1, qc_fs_set g.2.2.1 M M' a ci q2 (h1 g.2.2.1) (h2 g.2.2.1)]
  rcases q3 with q3 | q3
  · exact qc_putA C.1 C.2.1 C.2.2.2.2.2.1 (qc_c4 q1) (qc_tyF ci) (fun k hk => (qc_c2 q1 hk).2.1) (qc_c3 q1) C.2.2.2.2.1 D.1.2.2.2.2.1 D.1.2.2.2.1 (qc_D g w M) S (a - 256) he hc k q2 c2.1 q3 hfin (hn g.2.2.1) (hfit g.2.2.1) (by simpa using q2) hdg fin
  · exact qc_putB C.1 C.2.1 C.2.2.2.2.2.1 (qc_c4 q1) (qc_tyF ci) (fun k hk => (qc_c2 q1 hk).2.1) (qc_c3 q1) C.2.2.2.2.1 D.1.2.2.2.2.1 D.1.2.2.2.1 (qc_D g w M) S (a - 256) he hc k q2 c2.1 q3 hfin (hn g.2.2.1) (hfit g.2.2.1) (by simpa using q2) hdg fin
def qc_fx (a NL ci k t : Nat) : Bool := (Nat.ble 256 a && Nat.blt a NL && Nat.ble NL qcNF && Nat.beq (qc_kd a) ci && Nat.blt ci 11) && Nat.beq (qc_tc ci k) t
/-- of a field that may be written: 0 whole numbers, 1 longs, 2 doubles, 3 references, 4 truths -/
def qc_fy (a NL ci k t : Nat) : Bool := (Nat.ble 256 a && Nat.blt a NL && Nat.ble NL qcNF && Nat.beq (qc_kd a) ci && Nat.blt ci 11) && (Nat.blt k (qc_nf ci) && Nat.beq (qc_fz ci k % 2) 0 && cond (Nat.beq t 4) (Nat.beq (qc_tc ci k) 0 && Nat.ble 2 (qc_fz ci k)) (Nat.beq (qc_tc ci k) t && Nat.ble (qc_fz ci k) 1))

theorem qc_gI {i ci k : Nat} (hd : qc_d mi (pc, pc', .getfield i, ci, k, v)) (hn : NL ≤ w.1) (hb : qc_fx a NL ci k 0 = true) (kk : qc_X R0 mi QQ cu su w (pc', lv, .int (I a k) :: st, I, L, D, R)) : qc_X R0 mi QQ cu su w (pc, lv, .ref a :: st, I, L, D, R) := by
  unfold qc_fx at hb
  rw [Bool.and_eq_true] at hb
  have ht := Nat.eq_of_beq_eq_true hb.2
  exact qc_gV hd (qc_kf hn hb.1) (fun f => by rw [ht]; rfl) kk
theorem qc_gId {i ci k : Nat} (hd : qc_d mi (pc, pc', .getfield i, ci, k, v)) (hk : qc_ki w a ci) (hb : Nat.beq (qc_tc ci k) 0 = true) (kk : qc_X R0 mi QQ cu su w (pc', lv, .int (I a k) :: st, I, L, D, R)) : qc_X R0 mi QQ cu su w (pc, lv, .ref a :: st, I, L, D, R) := by
  have ht := Nat.eq_of_beq_eq_true hb
  exact qc_gV hd hk (fun f => by rw [ht]; rfl) kk
theorem qc_gL {i ci k : Nat} (hd : qc_d mi (pc, pc', .getfield i, ci, k, v)) (hn : NL ≤ w.1) (hb : qc_fx a NL ci k 1 = true) (kk : qc_X R0 mi QQ cu su w (pc', lv, .long (L a k) :: st, I, L, D, R)) : qc_X R0 mi QQ cu su w (pc, lv, .ref a :: st, I, L, D, R) := by
  unfold qc_fx at hb
  rw [Bool.and_eq_true] at hb
  have ht := Nat.eq_of_beq_eq_true hb.2
  exact qc_gV hd (qc_kf hn hb.1) (fun f => by rw [ht]; rfl) kk
theorem qc_gLd {i ci k : Nat} (hd : qc_d mi (pc, pc', .getfield i, ci, k, v)) (hk : qc_ki w a ci) (hb : Nat.beq (qc_tc ci k) 1 = true) (kk : qc_X R0 mi QQ cu su w (pc', lv, .long (L a k) :: st, I, L, D, R)) : qc_X R0 mi QQ cu su w (pc, lv, .ref a :: st, I, L, D, R) := by
  have ht := Nat.eq_of_beq_eq_true hb
  exact qc_gV hd hk (fun f => by rw [ht]; rfl) kk
theorem qc_gD {i ci k : Nat} (hd : qc_d mi (pc, pc', .getfield i, ci, k, v)) (hn : NL ≤ w.1) (hb : qc_fx a NL ci k 2 = true) (kk : qc_X R0 mi QQ cu su w (pc', lv, .double (D a k) :: st, I, L, D, R)) : qc_X R0 mi QQ cu su w (pc, lv, .ref a :: st, I, L, D, R) := by
  unfold qc_fx at hb
  rw [Bool.and_eq_true] at hb
  have ht := Nat.eq_of_beq_eq_true hb.2
  exact qc_gV hd (qc_kf hn hb.1) (fun f => by rw [ht]; rfl) kk
theorem qc_gDd {i ci k : Nat} (hd : qc_d mi (pc, pc', .getfield i, ci, k, v)) (hk : qc_ki w a ci) (hb : Nat.beq (qc_tc ci k) 2 = true) (kk : qc_X R0 mi QQ cu su w (pc', lv, .double (D a k) :: st, I, L, D, R)) : qc_X R0 mi QQ cu su w (pc, lv, .ref a :: st, I, L, D, R) := by
  have ht := Nat.eq_of_beq_eq_true hb
  exact qc_gV hd hk (fun f => by rw [ht]; rfl) kk
theorem qc_gR {i ci k b : Nat} (hd : qc_d mi (pc, pc', .getfield i, ci, k, v)) (hn : NL ≤ w.1) (hb : qc_fx a NL ci k 3 = true) (hr : R a k = b) (hb2 : Nat.beq b 255 = false) (kk : qc_X R0 mi QQ cu su w (pc', lv, .ref b :: st, I, L, D, R)) : qc_X R0 mi QQ cu su w (pc, lv, .ref a :: st, I, L, D, R) := by
  unfold qc_fx at hb
  rw [Bool.and_eq_true] at hb
  have ht := Nat.eq_of_beq_eq_true hb.2
  exact qc_gV hd (qc_kf hn hb.1) (fun f => by rw [ht]; show qc_cv f (qc_rv (R a k)) = _; rw [hr]; unfold qc_rv; rw [hb2]; rfl) kk
theorem qc_gRd {i ci k b : Nat} (hd : qc_d mi (pc, pc', .getfield i, ci, k, v)) (hk : qc_ki w a ci) (hb : Nat.beq (qc_tc ci k) 3 = true) (hr : R a k = b) (hb2 : Nat.beq b 255 = false) (kk : qc_X R0 mi QQ cu su w (pc', lv, .ref b :: st, I, L, D, R)) : qc_X R0 mi QQ cu su w (pc, lv, .ref a :: st, I, L, D, R) := by
  have ht := Nat.eq_of_beq_eq_true hb
  exact qc_gV hd hk (fun f => by rw [ht]; show qc_cv f (qc_rv (R a k)) = _; rw [hr]; unfold qc_rv; rw [hb2]; rfl) kk
theorem qc_tyk {ci k t : Nat} (h1 : ci < 11) (h2 : k < qc_nf ci) (hb : cond (Nat.beq t 4) (Nat.beq (qc_tc ci k) 0 && Nat.ble 2 (qc_fz ci k)) (Nat.beq (qc_tc ci k) t && Nat.ble (qc_fz ci k) 1) = true) :
    (t = 0 → qc_tyF ci k = .int) ∧ (t = 1 → qc_tyF ci k = .long) ∧ (t = 2 → qc_tyF ci k = .double) ∧ (t = 3 → (∃ n, qc_tyF ci k = .object n) ∨ ∃ n, qc_tyF ci k = .array n) ∧ (t = 4 → qc_tyF ci k = .boolean) := by
  have c := (qc_c2 h1 h2).2.2.1
  generalize qc_tyF ci k = ty at c ⊢
  generalize qc_tc ci k = tc at c hb
  generalize qc_fz ci k = fz at c hb
  refine ⟨?_, ?_, ?_, ?_, ?_⟩ <;> intro ht <;> subst ht <;> simp only [Nat.beq, cond, Bool.and_eq_true] at hb <;> obtain ⟨hb1, hb2⟩ := hb <;> have e1 := Nat.eq_of_beq_eq_true hb1 <;> subst e1 <;> have hb2 := Nat.le_of_ble_eq_true hb2 <;> cases ty <;> simp [qc_tyok] at c ⊢ <;> omega

theorem qc_pI {i ci k : Nat} {x : Int32} (hd : qc_d mi (pc, pc', .putfield i, ci, k, v)) (hn : NL ≤ w.1) (hb : qc_fy a NL ci k 0 = true) (kk : qc_X R0 mi QQ cu su w (pc', lv, st, qc_u I a k x, L, D, R)) : qc_X R0 mi QQ cu su w (pc, lv, .int x :: .ref a :: st, I, L, D, R) := by
  unfold qc_fy at hb
  rw [Bool.and_eq_true] at hb
  have hk := qc_kf hn hb.1
  have hb := hb.2
  rw [Bool.and_eq_true, Bool.and_eq_true] at hb
  obtain ⟨⟨hb1, hb2⟩, hb3⟩ := hb
  have hb1 : k < qc_nf ci := Nat.le_of_ble_eq_true hb1
  have hb2 := Nat.eq_of_beq_eq_true hb2
  have hty := qc_tyk hk.1 hb1 hb3
  have htc : qc_tc ci k = 0 := by
    simp only [Nat.beq, cond, Bool.and_eq_true] at hb3
    exact Nat.eq_of_beq_eq_true hb3.1
  refine qc_pV hd hk hb2 (fun f => ?_) (fun f => ?_) (fun f => ?_) (fun f j hj => ?_) (fun g kd ln b hb => ?_) kk
  · rw [hty.1 rfl]; rfl
  · rw [hty.1 rfl]; rfl
  · rw [htc]
    unfold qc_fv
    simp only [qc_u_at]
    rfl
  · unfold qc_fv
    simp only [qc_u_ne _ x (Or.inr hj : a ≠ a ∨ j ≠ k)]
  · exact qc_fv_off id I L D R _ _ _ _ (qc_u_off _ x hb) rfl rfl rfl g kd ln
theorem qc_pId {i ci k : Nat} {x : Int32} (hd : qc_d mi (pc, pc', .putfield i, ci, k, v)) (hk : qc_ki w a ci) (hb : (Nat.blt k (qc_nf ci) && Nat.beq (qc_fz ci k % 2) 0 && cond (Nat.beq 0 4) (Nat.beq (qc_tc ci k) 0 && Nat.ble 2 (qc_fz ci k)) (Nat.beq (qc_tc ci k) 0 && Nat.ble (qc_fz ci k) 1)) = true) (kk : qc_X R0 mi QQ cu su w (pc', lv, st, qc_u I a k x, L, D, R)) : qc_X R0 mi QQ cu su w (pc, lv, .int x :: .ref a :: st, I, L, D, R) := by
  rw [Bool.and_eq_true, Bool.and_eq_true] at hb
  obtain ⟨⟨hb1, hb2⟩, hb3⟩ := hb
  have hb1 : k < qc_nf ci := Nat.le_of_ble_eq_true hb1
  have hb2 := Nat.eq_of_beq_eq_true hb2
  have hty := qc_tyk hk.1 hb1 hb3
  have htc : qc_tc ci k = 0 := by
    simp only [Nat.beq, cond, Bool.and_eq_true] at hb3
    exact Nat.eq_of_beq_eq_true hb3.1
  refine qc_pV hd hk hb2 (fun f => ?_) (fun f => ?_) (fun f => ?_) (fun f j hj => ?_) (fun g kd ln b hb => ?_) kk
  · rw [hty.1 rfl]; rfl
  · rw [hty.1 rfl]; rfl
  · rw [htc]
    unfold qc_fv
    simp only [qc_u_at]
    rfl
  · unfold qc_fv
    simp only [qc_u_ne _ x (Or.inr hj : a ≠ a ∨ j ≠ k)]
  · exact qc_fv_off id I L D R _ _ _ _ (qc_u_off _ x hb) rfl rfl rfl g kd ln
theorem qc_pL {i ci k : Nat} {x : Int64} (hd : qc_d mi (pc, pc', .putfield i, ci, k, v)) (hn : NL ≤ w.1) (hb : qc_fy a NL ci k 1 = true) (kk : qc_X R0 mi QQ cu su w (pc', lv, st, I, qc_u L a k x, D, R)) : qc_X R0 mi QQ cu su w (pc, lv, .long x :: .ref a :: st, I, L, D, R) := by
  unfold qc_fy at hb
  rw [Bool.and_eq_true] at hb
  have hk := qc_kf hn hb.1
  have hb := hb.2
  rw [Bool.and_eq_true, Bool.and_eq_true] at hb
  obtain ⟨⟨hb1, hb2⟩, hb3⟩ := hb
  have hb1 : k < qc_nf ci := Nat.le_of_ble_eq_true hb1
  have hb2 := Nat.eq_of_beq_eq_true hb2
  have hty := qc_tyk hk.1 hb1 hb3
  have htc : qc_tc ci k = 1 := by
    simp only [Nat.beq, cond, Bool.and_eq_true] at hb3
    exact Nat.eq_of_beq_eq_true hb3.1
  refine qc_pV hd hk hb2 (fun f => ?_) (fun f => ?_) (fun f => ?_) (fun f j hj => ?_) (fun g kd ln b hb => ?_) kk
  · rw [hty.2.1 rfl]; rfl
  · rw [hty.2.1 rfl]; rfl
  · rw [htc]
    unfold qc_fv
    simp only [qc_u_at]
    rfl
  · unfold qc_fv
    simp only [qc_u_ne _ x (Or.inr hj : a ≠ a ∨ j ≠ k)]
  · exact qc_fv_off id I L D R _ _ _ _ rfl (qc_u_off _ x hb) rfl rfl g kd ln
theorem qc_pLd {i ci k : Nat} {x : Int64} (hd : qc_d mi (pc, pc', .putfield i, ci, k, v)) (hk : qc_ki w a ci) (hb : (Nat.blt k (qc_nf ci) && Nat.beq (qc_fz ci k % 2) 0 && cond (Nat.beq 1 4) (Nat.beq (qc_tc ci k) 0 && Nat.ble 2 (qc_fz ci k)) (Nat.beq (qc_tc ci k) 1 && Nat.ble (qc_fz ci k) 1)) = true) (kk : qc_X R0 mi QQ cu su w (pc', lv, st, I, qc_u L a k x, D, R)) : qc_X R0 mi QQ cu su w (pc, lv, .long x :: .ref a :: st, I, L, D, R) := by
  rw [Bool.and_eq_true, Bool.and_eq_true] at hb
  obtain ⟨⟨hb1, hb2⟩, hb3⟩ := hb
  have hb1 : k < qc_nf ci := Nat.le_of_ble_eq_true hb1
  have hb2 := Nat.eq_of_beq_eq_true hb2
  have hty := qc_tyk hk.1 hb1 hb3
  have htc : qc_tc ci k = 1 := by
    simp only [Nat.beq, cond, Bool.and_eq_true] at hb3
    exact Nat.eq_of_beq_eq_true hb3.1
  refine qc_pV hd hk hb2 (fun f => ?_) (fun f => ?_) (fun f => ?_) (fun f j hj => ?_) (fun g kd ln b hb => ?_) kk
  · rw [hty.2.1 rfl]; rfl
  · rw [hty.2.1 rfl]; rfl
  · rw [htc]
    unfold qc_fv
    simp only [qc_u_at]
    rfl
  · unfold qc_fv
    simp only [qc_u_ne _ x (Or.inr hj : a ≠ a ∨ j ≠ k)]
  · exact qc_fv_off id I L D R _ _ _ _ rfl (qc_u_off _ x hb) rfl rfl g kd ln
theorem qc_pD {i ci k : Nat} {x : UInt64} (hd : qc_d mi (pc, pc', .putfield i, ci, k, v)) (hn : NL ≤ w.1) (hb : qc_fy a NL ci k 2 = true) (kk : qc_X R0 mi QQ cu su w (pc', lv, st, I, L, qc_u D a k x, R)) : qc_X R0 mi QQ cu su w (pc, lv, .double x :: .ref a :: st, I, L, D, R) := by
  unfold qc_fy at hb
  rw [Bool.and_eq_true] at hb
  have hk := qc_kf hn hb.1
  have hb := hb.2
  rw [Bool.and_eq_true, Bool.and_eq_true] at hb
  obtain ⟨⟨hb1, hb2⟩, hb3⟩ := hb
  have hb1 : k < qc_nf ci := Nat.le_of_ble_eq_true hb1
  have hb2 := Nat.eq_of_beq_eq_true hb2
  have hty := qc_tyk hk.1 hb1 hb3
  have htc : qc_tc ci k = 2 := by
    simp only [Nat.beq, cond, Bool.and_eq_true] at hb3
    exact Nat.eq_of_beq_eq_true hb3.1
  refine qc_pV hd hk hb2 (fun f => ?_) (fun f => ?_) (fun f => ?_) (fun f j hj => ?_) (fun g kd ln b hb => ?_) kk
  · rw [hty.2.2.1 rfl]; rfl
  · rw [hty.2.2.1 rfl]; rfl
  · rw [htc]
    unfold qc_fv
    simp only [qc_u_at]
    rfl
  · unfold qc_fv
    simp only [qc_u_ne _ x (Or.inr hj : a ≠ a ∨ j ≠ k)]
  · exact qc_fv_off id I L D R _ _ _ _ rfl rfl (qc_u_off _ x hb) rfl g kd ln
theorem qc_pDd {i ci k : Nat} {x : UInt64} (hd : qc_d mi (pc, pc', .putfield i, ci, k, v)) (hk : qc_ki w a ci) (hb : (Nat.blt k (qc_nf ci) && Nat.beq (qc_fz ci k % 2) 0 && cond (Nat.beq 2 4) (Nat.beq (qc_tc ci k) 0 && Nat.ble 2 (qc_fz ci k)) (Nat.beq (qc_tc ci k) 2 && Nat.ble (qc_fz ci k) 1)) = true) (kk : qc_X R0 mi QQ cu su w (pc', lv, st, I, L, qc_u D a k x, R)) : qc_X R0 mi QQ cu su w (pc, lv, .double x :: .ref a :: st, I, L, D, R) := by
  rw [Bool.and_eq_true, Bool.and_eq_true] at hb
  obtain ⟨⟨hb1, hb2⟩, hb3⟩ := hb
  have hb1 : k < qc_nf ci := Nat.le_of_ble_eq_true hb1
  have hb2 := Nat.eq_of_beq_eq_true hb2
  have hty := qc_tyk hk.1 hb1 hb3
  have htc : qc_tc ci k = 2 := by
    simp only [Nat.beq, cond, Bool.and_eq_true] at hb3
    exact Nat.eq_of_beq_eq_true hb3.1
  refine qc_pV hd hk hb2 (fun f => ?_) (fun f => ?_) (fun f => ?_) (fun f j hj => ?_) (fun g kd ln b hb => ?_) kk
  · rw [hty.2.2.1 rfl]; rfl
  · rw [hty.2.2.1 rfl]; rfl
  · rw [htc]
    unfold qc_fv
    simp only [qc_u_at]
    rfl
  · unfold qc_fv
    simp only [qc_u_ne _ x (Or.inr hj : a ≠ a ∨ j ≠ k)]
  · exact qc_fv_off id I L D R _ _ _ _ rfl rfl (qc_u_off _ x hb) rfl g kd ln
theorem qc_pR {i ci k : Nat} {x : Nat} (hd : qc_d mi (pc, pc', .putfield i, ci, k, v)) (hn : NL ≤ w.1) (hb : qc_fy a NL ci k 3 = true) (hx : Nat.beq x 255 = false) (kk : qc_X R0 mi QQ cu su w (pc', lv, st, I, L, D, qc_u R a k x)) : qc_X R0 mi QQ cu su w (pc, lv, .ref x :: .ref a :: st, I, L, D, R) := by
  unfold qc_fy at hb
  rw [Bool.and_eq_true] at hb
  have hk := qc_kf hn hb.1
  have hb := hb.2
  rw [Bool.and_eq_true, Bool.and_eq_true] at hb
  obtain ⟨⟨hb1, hb2⟩, hb3⟩ := hb
  have hb1 : k < qc_nf ci := Nat.le_of_ble_eq_true hb1
  have hb2 := Nat.eq_of_beq_eq_true hb2
  have hty := qc_tyk hk.1 hb1 hb3
  have htc : qc_tc ci k = 3 := by
    simp only [Nat.beq, cond, Bool.and_eq_true] at hb3
    exact Nat.eq_of_beq_eq_true hb3.1
  refine qc_pV hd hk hb2 (fun f => ?_) (fun f => ?_) (fun f => ?_) (fun f j hj => ?_) (fun g kd ln b hb => ?_) kk
  · rcases hty.2.2.2.1 rfl with ⟨n, e⟩ | ⟨n, e⟩ <;> rw [e] <;> rfl
  · rcases hty.2.2.2.1 rfl with ⟨n, e⟩ | ⟨n, e⟩ <;> rw [e] <;> rfl
  · rw [htc]
    unfold qc_fv
    simp only [qc_u_at]
    unfold qc_rv
    rw [hx]
    rfl
  · unfold qc_fv
    simp only [qc_u_ne _ x (Or.inr hj : a ≠ a ∨ j ≠ k)]
  · exact qc_fv_off id I L D R _ _ _ _ rfl rfl rfl (qc_u_off _ x hb) g kd ln
theorem qc_pRd {i ci k : Nat} {x : Nat} (hd : qc_d mi (pc, pc', .putfield i, ci, k, v)) (hk : qc_ki w a ci) (hb : (Nat.blt k (qc_nf ci) && Nat.beq (qc_fz ci k % 2) 0 && cond (Nat.beq 3 4) (Nat.beq (qc_tc ci k) 0 && Nat.ble 2 (qc_fz ci k)) (Nat.beq (qc_tc ci k) 3 && Nat.ble (qc_fz ci k) 1)) = true) (hx : Nat.beq x 255 = false) (kk : qc_X R0 mi QQ cu su w (pc', lv, st, I, L, D, qc_u R a k x)) : qc_X R0 mi QQ cu su w (pc, lv, .ref x :: .ref a :: st, I, L, D, R) := by
  rw [Bool.and_eq_true, Bool.and_eq_true] at hb
  obtain ⟨⟨hb1, hb2⟩, hb3⟩ := hb
  have hb1 : k < qc_nf ci := Nat.le_of_ble_eq_true hb1
  have hb2 := Nat.eq_of_beq_eq_true hb2
  have hty := qc_tyk hk.1 hb1 hb3
  have htc : qc_tc ci k = 3 := by
    simp only [Nat.beq, cond, Bool.and_eq_true] at hb3
    exact Nat.eq_of_beq_eq_true hb3.1
  refine qc_pV hd hk hb2 (fun f => ?_) (fun f => ?_) (fun f => ?_) (fun f j hj => ?_) (fun g kd ln b hb => ?_) kk
  · rcases hty.2.2.2.1 rfl with ⟨n, e⟩ | ⟨n, e⟩ <;> rw [e] <;> rfl
  · rcases hty.2.2.2.1 rfl with ⟨n, e⟩ | ⟨n, e⟩ <;> rw [e] <;> rfl
  · rw [htc]
    unfold qc_fv
    simp only [qc_u_at]
    unfold qc_rv
    rw [hx]
    rfl
  · unfold qc_fv
    simp only [qc_u_ne _ x (Or.inr hj : a ≠ a ∨ j ≠ k)]
  · exact qc_fv_off id I L D R _ _ _ _ rfl rfl rfl (qc_u_off _ x hb) g kd ln
theorem qc_pZ {i ci k : Nat} {x : Int32} (hd : qc_d mi (pc, pc', .putfield i, ci, k, v)) (hn : NL ≤ w.1) (hb : qc_fy a NL ci k 4 = true) (hx : x = 0 ∨ x = 1) (kk : qc_X R0 mi QQ cu su w (pc', lv, st, qc_u I a k x, L, D, R)) : qc_X R0 mi QQ cu su w (pc, lv, .int x :: .ref a :: st, I, L, D, R) := by
  unfold qc_fy at hb
  rw [Bool.and_eq_true] at hb
  have hk := qc_kf hn hb.1
  have hb := hb.2
  rw [Bool.and_eq_true, Bool.and_eq_true] at hb
  obtain ⟨⟨hb1, hb2⟩, hb3⟩ := hb
  have hb1 : k < qc_nf ci := Nat.le_of_ble_eq_true hb1
  have hb2 := Nat.eq_of_beq_eq_true hb2
  have hty := qc_tyk hk.1 hb1 hb3
  have htc : qc_tc ci k = 0 := by
    simp only [Nat.beq, cond, Bool.and_eq_true] at hb3
    exact Nat.eq_of_beq_eq_true hb3.1
  refine qc_pV hd hk hb2 (fun f => ?_) (fun f => ?_) (fun f => ?_) (fun f j hj => ?_) (fun g kd ln b hb => ?_) kk
  · rw [hty.2.2.2.2 rfl]; rcases hx with rfl | rfl <;> rfl
  · rw [hty.2.2.2.2 rfl]; rcases hx with rfl | rfl <;> rfl
  · rw [htc]
    unfold qc_fv
    simp only [qc_u_at]
    rfl
  · unfold qc_fv
    simp only [qc_u_ne _ x (Or.inr hj : a ≠ a ∨ j ≠ k)]
  · exact qc_fv_off id I L D R _ _ _ _ (qc_u_off _ x hb) rfl rfl rfl g kd ln
theorem qc_pZd {i ci k : Nat} {x : Int32} (hd : qc_d mi (pc, pc', .putfield i, ci, k, v)) (hk : qc_ki w a ci) (hb : (Nat.blt k (qc_nf ci) && Nat.beq (qc_fz ci k % 2) 0 && cond (Nat.beq 4 4) (Nat.beq (qc_tc ci k) 0 && Nat.ble 2 (qc_fz ci k)) (Nat.beq (qc_tc ci k) 4 && Nat.ble (qc_fz ci k) 1)) = true) (hx : x = 0 ∨ x = 1) (kk : qc_X R0 mi QQ cu su w (pc', lv, st, qc_u I a k x, L, D, R)) : qc_X R0 mi QQ cu su w (pc, lv, .int x :: .ref a :: st, I, L, D, R) := by
  rw [Bool.and_eq_true, Bool.and_eq_true] at hb
  obtain ⟨⟨hb1, hb2⟩, hb3⟩ := hb
  have hb1 : k < qc_nf ci := Nat.le_of_ble_eq_true hb1
  have hb2 := Nat.eq_of_beq_eq_true hb2
  have hty := qc_tyk hk.1 hb1 hb3
  have htc : qc_tc ci k = 0 := by
    simp only [Nat.beq, cond, Bool.and_eq_true] at hb3
    exact Nat.eq_of_beq_eq_true hb3.1
  refine qc_pV hd hk hb2 (fun f => ?_) (fun f => ?_) (fun f => ?_) (fun f j hj => ?_) (fun g kd ln b hb => ?_) kk
  · rw [hty.2.2.2.2 rfl]; rcases hx with rfl | rfl <;> rfl
  · rw [hty.2.2.2.2 rfl]; rcases hx with rfl | rfl <;> rfl
  · rw [htc]
    unfold qc_fv
    simp only [qc_u_at]
    rfl
  · unfold qc_fv
    simp only [qc_u_ne _ x (Or.inr hj : a ≠ a ∨ j ≠ k)]
  · exact qc_fv_off id I L D R _ _ _ _ (qc_u_off _ x hb) rfl rfl rfl g kd ln
theorem qc_ialdd {n : Nat} {j : Int32} (hd : qc_d mi (pc, pc', .iaload, a0, b0, v)) (ha : qc_ka w a 100 n) (hin : vp_in j n) (kk : qc_X R0 mi QQ cu su w (pc', lv, .int (I a j.toNatClampNeg) :: st, I, L, D, R)) : qc_X R0 mi QQ cu su w (pc, lv, .int j :: .ref a :: st, I, L, D, R) := by
  obtain ⟨rfl, hdg⟩ := hd.of (n := 0) rfl
  intro p l e s m args below meth c0 g H locs ls C W0 S L0
  have he := ha.get W0.1
  exact va_iald C.1 C.2.1 W0.1.2.2.2.2.1 W0.1.2.2.2.1 (a - 256) 0 he rfl hin hdg (kk p l e s m args below meth c0 g H locs ls C W0 S L0)
theorem qc_iald (n : Nat) {j : Int32} (hd : qc_d mi (pc, pc', .iaload, a0, b0, v)) (hn : NL ≤ w.1) (hb : (Nat.ble 256 a && Nat.blt a NL && Nat.ble NL qcNF && Nat.beq (qc_kd a) 100 && Nat.beq (qc_ln a) n) = true) (hin : vp_in j n) (kk : qc_X R0 mi QQ cu su w (pc', lv, .int (I a j.toNatClampNeg) :: st, I, L, D, R)) : qc_X R0 mi QQ cu su w (pc, lv, .int j :: .ref a :: st, I, L, D, R) :=
  qc_ialdd hd (qc_kfa hn hb) hin kk
theorem qc_laldd {n : Nat} {j : Int32} (hd : qc_d mi (pc, pc', .laload, a0, b0, v)) (ha : qc_ka w a 101 n) (hin : vp_in j n) (kk : qc_X R0 mi QQ cu su w (pc', lv, .long (L a j.toNatClampNeg) :: st, I, L, D, R)) : qc_X R0 mi QQ cu su w (pc, lv, .int j :: .ref a :: st, I, L, D, R) := by
  obtain ⟨rfl, hdg⟩ := hd.of (n := 0) rfl
  intro p l e s m args below meth c0 g H locs ls C W0 S L0
  have he := ha.get W0.1
  exact va_lald C.1 C.2.1 W0.1.2.2.2.2.1 W0.1.2.2.2.1 (a - 256) 1 he rfl hin hdg (kk p l e s m args below meth c0 g H locs ls C W0 S L0)
theorem qc_lald (n : Nat) {j : Int32} (hd : qc_d mi (pc, pc', .laload, a0, b0, v)) (hn : NL ≤ w.1) (hb : (Nat.ble 256 a && Nat.blt a NL && Nat.ble NL qcNF && Nat.beq (qc_kd a) 101 && Nat.beq (qc_ln a) n) = true) (hin : vp_in j n) (kk : qc_X R0 mi QQ cu su w (pc', lv, .long (L a j.toNatClampNeg) :: st, I, L, D, R)) : qc_X R0 mi QQ cu su w (pc, lv, .int j :: .ref a :: st, I, L, D, R) :=
  qc_laldd hd (qc_kfa hn hb) hin kk
theorem qc_daldd {n : Nat} {j : Int32} (hd : qc_d mi (pc, pc', .daload, a0, b0, v)) (ha : qc_ka w a 102 n) (hin : vp_in j n) (kk : qc_X R0 mi QQ cu su w (pc', lv, .double (D a j.toNatClampNeg) :: st, I, L, D, R)) : qc_X R0 mi QQ cu su w (pc, lv, .int j :: .ref a :: st, I, L, D, R) := by
  obtain ⟨rfl, hdg⟩ := hd.of (n := 0) rfl
  intro p l e s m args below meth c0 g H locs ls C W0 S L0
  have he := ha.get W0.1
  exact va_dald C.1 C.2.1 W0.1.2.2.2.2.1 W0.1.2.2.2.1 (a - 256) 2 he rfl hin hdg (kk p l e s m args below meth c0 g H locs ls C W0 S L0)
theorem qc_dald (n : Nat) {j : Int32} (hd : qc_d mi (pc, pc', .daload, a0, b0, v)) (hn : NL ≤ w.1) (hb : (Nat.ble 256 a && Nat.blt a NL && Nat.ble NL qcNF && Nat.beq (qc_kd a) 102 && Nat.beq (qc_ln a) n) = true) (hin : vp_in j n) (kk : qc_X R0 mi QQ cu su w (pc', lv, .double (D a j.toNatClampNeg) :: st, I, L, D, R)) : qc_X R0 mi QQ cu su w (pc, lv, .int j :: .ref a :: st, I, L, D, R) :=
  qc_daldd hd (qc_kfa hn hb) hin kk
theorem qc_kd_at {g : qcG} {s : State} {H : Heap} {kd n : Nat} (h : qc_ka w a kd n) (W0 : qc_WD g w M s H) : w.2.1 a = kd ∧ w.2.2 a = n := by
  rcases h.2.2 with h4 | ⟨h5, h6⟩
  · exact h4
  · rw [(W0.2.2.2.2.2.1 a h.2.1 h.1 h5).1, (W0.2.2.2.2.2.1 a h.2.1 h.1 h5).2]; exact h6
theorem qc_iastd {n : Nat} {j : Int32} {x : Int32} (hd : qc_d mi (pc, pc', .iastore, a0, b0, v)) (ha : qc_ka w a 100 n) (hin : vp_in j n) (kk : qc_X R0 mi QQ cu su w (pc', lv, st, qc_u I a j.toNatClampNeg x, L, D, R)) : qc_X R0 mi QQ cu su w (pc, lv, .int x :: .int j :: .ref a :: st, I, L, D, R) := by
  obtain ⟨rfl, hdg⟩ := hd.of (n := 0) rfl
  intro p l e s m args below meth c0 g H locs ls C W0 S L0
  have he := ha.get W0.1
  have hk := qc_kd_at ha W0.1
  refine qc_iastW C.1 C.2.1 W0.1.2.2.2.2.1 W0.1.2.2.2.1 (qc_D g w (I, L, D, R)) S (a - 256) 0 he rfl hin hdg (fun H1 locs1 hz hP hS => ?_)
  refine kk p l e s m args below meth c0 g H1 locs1 ls C (qc_WD.put W0 ha.1 ha.2.1 hz hP hS S ?_ (fun b hb => qc_fv_off id I L D R _ _ _ _ (qc_u_off _ x hb) rfl rfl rfl g _ _)) hS L0
  rw [hk.1, hk.2]
  unfold qc_cell
  simp only [qc_u_on]
  rfl
theorem qc_iast (n : Nat) {j : Int32} {x : Int32} (hd : qc_d mi (pc, pc', .iastore, a0, b0, v)) (hn : NL ≤ w.1) (hb : (Nat.ble 256 a && Nat.blt a NL && Nat.ble NL qcNF && Nat.beq (qc_kd a) 100 && Nat.beq (qc_ln a) n) = true) (hin : vp_in j n) (kk : qc_X R0 mi QQ cu su w (pc', lv, st, qc_u I a j.toNatClampNeg x, L, D, R)) : qc_X R0 mi QQ cu su w (pc, lv, .int x :: .int j :: .ref a :: st, I, L, D, R) :=
  qc_iastd hd (qc_kfa hn hb) hin kk
theorem qc_lastd {n : Nat} {j : Int32} {x : Int64} (hd : qc_d mi (pc, pc', .lastore, a0, b0, v)) (ha : qc_ka w a 101 n) (hin : vp_in j n) (kk : qc_X R0 mi QQ cu su w (pc', lv, st, I, qc_u L a j.toNatClampNeg x, D, R)) : qc_X R0 mi QQ cu su w (pc, lv, .long x :: .int j :: .ref a :: st, I, L, D, R) := by
  obtain ⟨rfl, hdg⟩ := hd.of (n := 0) rfl
  intro p l e s m args below meth c0 g H locs ls C W0 S L0
  have he := ha.get W0.1
  have hk := qc_kd_at ha W0.1
  refine qc_lastW C.1 C.2.1 W0.1.2.2.2.2.1 W0.1.2.2.2.1 (qc_D g w (I, L, D, R)) S (a - 256) 1 he rfl hin hdg (fun H1 locs1 hz hP hS => ?_)
  refine kk p l e s m args below meth c0 g H1 locs1 ls C (qc_WD.put W0 ha.1 ha.2.1 hz hP hS S ?_ (fun b hb => qc_fv_off id I L D R _ _ _ _ rfl (qc_u_off _ x hb) rfl rfl g _ _)) hS L0
  rw [hk.1, hk.2]
  unfold qc_cell
  simp only [qc_u_on]
  rfl
theorem qc_last (n : Nat) {j : Int32} {x : Int64} (hd : qc_d mi (pc, pc', .lastore, a0, b0, v)) (hn : NL ≤ w.1) (hb : (Nat.ble 256 a && Nat.blt a NL && Nat.ble NL qcNF && Nat.beq (qc_kd a) 101 && Nat.beq (qc_ln a) n) = true) (hin : vp_in j n) (kk : qc_X R0 mi QQ cu su w (pc', lv, st, I, qc_u L a j.toNatClampNeg x, D, R)) : qc_X R0 mi QQ cu su w (pc, lv, .long x :: .int j :: .ref a :: st, I, L, D, R) :=
  qc_lastd hd (qc_kfa hn hb) hin kk
theorem qc_dastd {n : Nat} {j : Int32} {x : UInt64} (hd : qc_d mi (pc, pc', .dastore, a0, b0, v)) (ha : qc_ka w a 102 n) (hin : vp_in j n) (kk : qc_X R0 mi QQ cu su w (pc', lv, st, I, L, qc_u D a j.toNatClampNeg x, R)) : qc_X R0 mi QQ cu su w (pc, lv, .double x :: .int j :: .ref a :: st, I, L, D, R) := by
  obtain ⟨rfl, hdg⟩ := hd.of (n := 0) rfl
  intro p l e s m args below meth c0 g H locs ls C W0 S L0
  have he := ha.get W0.1
  have hk := qc_kd_at ha W0.1
  refine qc_dastW C.1 C.2.1 W0.1.2.2.2.2.1 W0.1.2.2.2.1 (qc_D g w (I, L, D, R)) S (a - 256) 2 he rfl hin hdg (fun H1 locs1 hz hP hS => ?_)
  refine kk p l e s m args below meth c0 g H1 locs1 ls C (qc_WD.put W0 ha.1 ha.2.1 hz hP hS S ?_ (fun b hb => qc_fv_off id I L D R _ _ _ _ rfl rfl (qc_u_off _ x hb) rfl g _ _)) hS L0
  rw [hk.1, hk.2]
  unfold qc_cell
  simp only [qc_u_on]
  rfl
theorem qc_dast (n : Nat) {j : Int32} {x : UInt64} (hd : qc_d mi (pc, pc', .dastore, a0, b0, v)) (hn : NL ≤ w.1) (hb : (Nat.ble 256 a && Nat.blt a NL && Nat.ble NL qcNF && Nat.beq (qc_kd a) 102 && Nat.beq (qc_ln a) n) = true) (hin : vp_in j n) (kk : qc_X R0 mi QQ cu su w (pc', lv, st, I, L, qc_u D a j.toNatClampNeg x, R)) : qc_X R0 mi QQ cu su w (pc, lv, .double x :: .int j :: .ref a :: st, I, L, D, R) :=
  qc_dastd hd (qc_kfa hn hb) hin kk
end QCA
