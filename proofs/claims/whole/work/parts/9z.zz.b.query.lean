/-! read's end, query, as contracts -/
def qzB (I' : qTI) (L' : qTL) (D' : qTD) (R' : qTR) (N s0 s1 s2 nr : Nat) (M' : qcM) : Prop := qzP (qc_z I' N 0) (qc_z L' N 0) (qc_z D' N 0) (qc_z R' N 255) N s0 s1 s2 nr M'
def qzV (kd ln : Nat → Nat) (N n nr : Nat) : qcW := qzW (va_up kd N 6) (va_up ln N 0) N n nr
theorem qzV_n {kd ln : Nat → Nat} {N n nr : Nat} (h : 338 ≤ N) : (qzV kd ln N n nr).1 = N + 5 ∧ qcNF ≤ (qzV kd ln N n nr).1 ∧ qc_ki (qzV kd ln N n nr) N 6 := by
  have h0 : qcNF = 338 := rfl
  have h1 : (qzV kd ln N n nr).1 = N + 5 := rfl
  refine ⟨h1, by omega, ?_⟩
  have h2 : qc_ki (qc_wn (N, kd, ln) 6 0) N 6 := qz_kiN (w := (N, kd, ln)) (by show 256 ≤ N; omega) (by decide)
  exact qz_ki (qz_ki (qz_ki (qz_ki h2)))
theorem qz_fl : ∀ q ∈ qc_frL, q.1 < 338 := by decide
section
variable {I I' : qTI} {L L' : qTL} {D D' : qTD} {R R' : qTR} {kd ln : Nat → Nat} {N : Nat}
set_option maxRecDepth 100000 in
set_option maxHeartbeats 4000000 in
theorem qz_readE (hn : qcNF ≤ N) (hR : qc_FR R) (hR' : qc_FR R') (h : fX2_read (N, kd, ln) I L D R = some ((), I', L', D', R')) (hf : I' 268 6 ≠ 0) : qc_V 213 8 1500 qmX2_read [.ref 267] (N, kd, ln) (I, L, D, R) (qc_eq (some .null) (N, kd, ln) (I', L', D', R')) := by
  have hst : qc_X (qc_rm 213 8 1500) qmX2_read (qc_QM 8 1500 (qc_eq (some .null) (N, kd, ln) (I', L', D', R'))) 0 0 (N, kd, ln) (250, [(0, .ref 267)], [], I', L', D', R') := by
    refine qc_aload_n (qc_at qkX2_read 111 rfl) rfl <| qc_gR (qc_at qkX2_read 112 rfl) hn rfl (qfr_267_0 hR') rfl <| qc_gI (qc_at qkX2_read 113 rfl) hn rfl <| ?_
    refine qc_if_ne (qc_at qkX2_read 114 rfl) (fun _ => ?_) (fun hx => absurd hx hf)
    exact qc_aconst_null (qc_at qkX2_read 120 rfl) <| qc_aret (qc_at qkX2_read 121 rfl) rfl (Or.inl ⟨_, rfl⟩) (Or.inl rfl) (Nat.le_of_ble_eq_true rfl) (Nat.le_of_ble_eq_true rfl) (qc_eq.rf _ _ _)
  exact qc_V.of rfl rfl (Nat.le_of_ble_eq_true rfl) (lv := [(0, .ref 267)]) rfl (tX2_read hn hst hR h).2
set_option maxRecDepth 100000 in
set_option maxHeartbeats 4000000 in
theorem qz_read (hn : qcNF ≤ N) (hR : qc_FR R) (hR' : qc_FR R') (h : fX2_read (N, kd, ln) I L D R = some ((), I', L', D', R')) (hf : I' 268 6 = 0) {s0 s1 s2 nr : Nat} (h0 : I' 270 2 = nI s0) (h1 : I' 273 2 = nI s1) (h2 : I' 276 2 = nI s2) (l0 : s0 ≤ 200) (l1 : s1 ≤ 200) (l2 : s2 ≤ 200) (hnr : I' 267 5 = nI nr) (lnr : nr < 100) (h7 : Nat.beq (R' 267 7) 255 = false) (h8 : Nat.beq (R' 267 8) 255 = false) :
    qc_V 213 8 1500 qmX2_read [.ref 267] (N, kd, ln) (I, L, D, R) (fun r w' M' => r = some (.ref N) ∧ w' = qzV kd ln N (s0 + s1 + s2) nr ∧ qzB I' L' D' R' N s0 s1 s2 nr M') := by
  have hNF : qcNF = 338 := rfl
  have h338 : 338 ≤ N := by omega
  have hst : qc_X (qc_rm 213 8 1500) qmX2_read (qc_QM 8 1500 (fun r w' M' => r = some (.ref N) ∧ w' = qzV kd ln N (s0 + s1 + s2) nr ∧ qzB I' L' D' R' N s0 s1 s2 nr M')) 0 0 (N, kd, ln) (250, [(0, .ref 267)], [], I', L', D', R') := by
    refine qc_aload_n (qc_at qkX2_read 111 rfl) rfl <| qc_gR (qc_at qkX2_read 112 rfl) hn rfl (qfr_267_0 hR') rfl <| qc_gI (qc_at qkX2_read 113 rfl) hn rfl <| ?_
    refine qc_if_ne (qc_at qkX2_read 114 rfl) (fun hx => absurd hf hx) (fun _ => ?_)
    refine qc_new 6 (qc_at qkX2_read 115 rfl) qn_2_149 (fun hx => absurd hx (by show ¬ N < qcNF; omega)) (Nat.le_of_ble_eq_true rfl) (Nat.le_of_ble_eq_true rfl) <| qc_dup (qc_at qkX2_read 116 rfl) rfl <| qc_aload_n (qc_at qkX2_read 117 rfl) rfl <| ?_
    have zo : ∀ {α : Type} (f : Nat → Nat → α) (a : Nat) (x : α), a < 338 → qc_z f N x a = f a := fun f a x ha => qc_z_off _ _ (by omega)
    have hz := qz_init (I := qc_z I' N 0) (L := qc_z L' N 0) (D := qc_z D' N 0) (R := qc_z R' N 255) (kd := va_up kd N 6) (ln := va_up ln N 0) h338 (qz_kiN (w := (N, kd, ln)) (by show 256 ≤ N; omega) (by decide)) (fun q hq => by rw [zo _ _ _ (qz_fl q hq)]; exact hR' q hq)
      (s0 := s0) (s1 := s1) (s2 := s2) (nr := nr) (by rw [zo _ _ _ (by decide)]; exact h0) (by rw [zo _ _ _ (by decide)]; exact h1) (by rw [zo _ _ _ (by decide)]; exact h2) l0 l1 l2 (by rw [zo _ _ _ (by decide)]; exact hnr) lnr (by rw [zo _ _ _ (by decide)]; exact h7) (by rw [zo _ _ _ (by decide)]; exact h8)
    refine qc_cI (a0 := N) (qc_at qkX2_read 118 rfl) ql_2_151 qfX7_init rfl hz rfl rfl (Nat.le_of_ble_eq_true rfl) ⟨Nat.le_of_ble_eq_true rfl, Nat.le_of_ble_eq_true rfl⟩ ⟨Nat.le_of_ble_eq_true rfl, Nat.le_of_ble_eq_true rfl⟩ (fun r w1 M1 hz => ?_)
    obtain ⟨rfl, rfl, hP⟩ := hz
    exact qc_goto (qc_at qkX2_read 119 rfl) <| qc_aret (qc_at qkX2_read 121 rfl) rfl (Or.inl ⟨_, rfl⟩) (Or.inr ⟨_, rfl⟩) (Nat.le_of_ble_eq_true rfl) (Nat.le_of_ble_eq_true rfl) ⟨rfl, rfl, hP⟩
  exact qc_V.of rfl rfl (Nat.le_of_ble_eq_true rfl) (lv := [(0, .ref 267)]) rfl (tX2_read hn hst hR h).2
/-! query -/
set_option maxRecDepth 100000 in
set_option maxHeartbeats 4000000 in
theorem qz_full (hn : qcNF ≤ N) (h12 : ¬ I 256 6 < 12) : qc_V 214 8 1500 qmX11_query [.ref 256] (N, kd, ln) (I, L, D, R) (qc_eq (some (.int (-2))) (N, kd, ln) (I, L, D, R)) := by
  refine qc_V.of rfl rfl (Nat.le_of_ble_eq_true rfl) (lv := [(0, .ref 256)]) rfl ?_
  refine qc_aload_n (qc_at qkX11_query 0 rfl) rfl <| qc_gI (qc_at qkX11_query 1 rfl) hn rfl <| qc_bipush (qc_at qkX11_query 2 rfl) <| ?_
  refine qc_icmp_lt (qc_at qkX11_query 3 rfl) (fun hx => absurd hx h12) (fun hx => ?_)
  exact qc_bipush (qc_at qkX11_query 4 rfl) <| qc_iret (qc_at qkX11_query 5 rfl) rfl (Nat.le_of_ble_eq_true rfl) (Nat.le_of_ble_eq_true rfl) (qc_eq.rf _ _ _)
set_option maxRecDepth 100000 in
set_option maxHeartbeats 4000000 in
theorem qz_queryE (hn : qcNF ≤ N) (hR : qc_FR R) (hR' : qc_FR R') (h12 : I 256 6 < 12) (h : fX2_read (N, kd, ln) I L D R = some ((), I', L', D', R')) (hf : I' 268 6 ≠ 0) (ht : 0 ≤ I' 265 1) :
    qc_V 214 8 1500 qmX11_query [.ref 256] (N, kd, ln) (I, L, D, R) (qc_eq (some (.int (-10 - I' 268 7))) (N, kd, ln) (qc_u (qc_u I' 256 8 (I' 268 6)) 265 1 0, L', D', R')) := by
  have hV := qz_readE hn hR hR' h hf
  refine qc_V.of rfl rfl (Nat.le_of_ble_eq_true rfl) (lv := [(0, .ref 256)]) rfl ?_
  refine qc_aload_n (qc_at qkX11_query 0 rfl) rfl <| qc_gI (qc_at qkX11_query 1 rfl) hn rfl <| qc_bipush (qc_at qkX11_query 2 rfl) <| ?_
  refine qc_icmp_lt (qc_at qkX11_query 3 rfl) (fun hx => ?_) (fun hx => absurd h12 hx)
  refine qc_aload_n (qc_at qkX11_query 6 rfl) rfl <| qc_gR (qc_at qkX11_query 7 rfl) hn rfl (qfr_256_2 hR) rfl <| ?_
  refine qc_cV (ci := 2) (a0 := 267) (qc_at qkX11_query 8 rfl) ql_11_123 qfX2_read (qc_kf hn rfl) rfl hV rfl rfl (Nat.le_of_ble_eq_true rfl) ⟨Nat.le_of_ble_eq_true rfl, Nat.le_of_ble_eq_true rfl⟩ ⟨Nat.le_of_ble_eq_true rfl, Nat.le_of_ble_eq_true rfl⟩ (fun r w1 M1 hz => ?_)
  obtain ⟨rfl, rfl, rfl⟩ := hz
  refine qc_astore_nN (lv' := [(1, _), (0, _)]) (qc_at qkX11_query 9 rfl) rfl rfl <| qc_aload_n (qc_at qkX11_query 10 rfl) rfl <| qc_aload_n (qc_at qkX11_query 11 rfl) rfl <| qc_gR (qc_at qkX11_query 12 rfl) hn rfl (qfr_256_2 hR') rfl <| ?_
  refine qc_cVv (ci := 2) (a0 := 267) (qc_at qkX11_query 13 rfl) ql_11_127 qfX2_faultKind (qc_kf hn rfl) rfl (tX2_faultKind hn hR' rfl).2 rfl rfl (Nat.le_of_ble_eq_true rfl) ⟨Nat.le_of_ble_eq_true rfl, Nat.le_of_ble_eq_true rfl⟩ ⟨Nat.le_of_ble_eq_true rfl, Nat.le_of_ble_eq_true rfl⟩ ?_
  refine qc_pI (qc_at qkX11_query 14 rfl) hn rfl <| qc_aload_n (qc_at qkX11_query 15 rfl) rfl <| qc_gR (qc_at qkX11_query 16 rfl) hn rfl (qfr_256_1 hR') rfl <| qc_iconst (qc_at qkX11_query 17 rfl) <| ?_
  have hcut : fX10_cut (N, kd, ln) (qc_u I' 256 8 (I' 268 6)) L' D' R' 0 = some (true, qc_u (qc_u I' 256 8 (I' 268 6)) 265 1 0, L', D', R') := by
    unfold fX10_cut
    rw [if_neg (by decide), if_pos (by rw [qc_u_ne _ _ (Or.inl (by decide))]; exact ht)]
  refine qc_cVv (ci := 8) (a0 := 265) (qc_at qkX11_query 18 rfl) ql_11_120 qfX10_cut (qc_kf hn rfl) rfl (tX10_cut hn hR' hcut).2 rfl rfl (Nat.le_of_ble_eq_true rfl) ⟨Nat.le_of_ble_eq_true rfl, Nat.le_of_ble_eq_true rfl⟩ ⟨Nat.le_of_ble_eq_true rfl, Nat.le_of_ble_eq_true rfl⟩ ?_
  refine qc_pop (qc_at qkX11_query 19 rfl) rfl <| qc_aload_nN (qc_at qkX11_query 20 rfl) rfl <| qc_ifnonnullN (qc_at qkX11_query 21 rfl) <| qc_bipush (qc_at qkX11_query 22 rfl) <| qc_aload_n (qc_at qkX11_query 23 rfl) rfl <| qc_gR (qc_at qkX11_query 24 rfl) hn rfl (qfr_256_2 hR') rfl <| ?_
  refine qc_cVv (ci := 2) (a0 := 267) (qc_at qkX11_query 25 rfl) ql_11_131 qfX2_faultPlace (qc_kf hn rfl) rfl (tX2_faultPlace hn hR' rfl).2 rfl rfl (Nat.le_of_ble_eq_true rfl) ⟨Nat.le_of_ble_eq_true rfl, Nat.le_of_ble_eq_true rfl⟩ ⟨Nat.le_of_ble_eq_true rfl, Nat.le_of_ble_eq_true rfl⟩ ?_
  have e7 : qc_u (qc_u I' 256 8 (I' 268 6)) 265 1 0 268 7 = I' 268 7 := by rw [qc_u_ne _ _ (Or.inl (by decide)), qc_u_ne _ _ (Or.inl (by decide))]
  refine qc_isub (qc_at qkX11_query 26 rfl) <| qc_iret (qc_at qkX11_query 27 rfl) rfl (Nat.le_of_ble_eq_true rfl) (Nat.le_of_ble_eq_true rfl) ?_
  rw [e7]
  exact qc_eq.rf _ _ _
/-- how the state is after a query was made -/
def qzQ (n N : Nat) (M4 : qcM) : qcM := (qc_u (qc_u (qc_u M4.1 256 8 0) 265 1 0) 256 6 (nI (n + 1)), M4.2.1, M4.2.2.1, qc_u M4.2.2.2 290 n N)
set_option maxRecDepth 100000 in
set_option maxHeartbeats 4000000 in
theorem qz_query (hn : qcNF ≤ N) (hR : qc_FR R) (hR' : qc_FR R') {n : Nat} (h6 : I 256 6 = nI n) (h6' : I' 256 6 = nI n) (h12 : n < 12) (h : fX2_read (N, kd, ln) I L D R = some ((), I', L', D', R')) (hf : I' 268 6 = 0) (ht : 0 ≤ I' 265 1) {s0 s1 s2 nr : Nat} (h0 : I' 270 2 = nI s0) (h1 : I' 273 2 = nI s1) (h2 : I' 276 2 = nI s2) (l0 : s0 ≤ 200) (l1 : s1 ≤ 200) (l2 : s2 ≤ 200) (hnr : I' 267 5 = nI nr) (lnr : nr < 100) (h7 : Nat.beq (R' 267 7) 255 = false) (h8 : Nat.beq (R' 267 8) 255 = false) :
    qc_V 214 8 1500 qmX11_query [.ref 256] (N, kd, ln) (I, L, D, R) (fun r w' M' => r = some (.int (nI n)) ∧ w' = qzV kd ln N (s0 + s1 + s2) nr ∧ ∃ M4, qzB I' L' D' R' N s0 s1 s2 nr M4 ∧ M' = qzQ n N M4) := by
  have hNF : qcNF = 338 := rfl
  have h338 : 338 ≤ N := by omega
  have hV := qz_read hn hR hR' h hf h0 h1 h2 l0 l1 l2 hnr lnr h7 h8
  refine qc_V.of rfl rfl (Nat.le_of_ble_eq_true rfl) (lv := [(0, .ref 256)]) rfl ?_
  refine qc_aload_n (qc_at qkX11_query 0 rfl) rfl <| qc_gI (qc_at qkX11_query 1 rfl) hn rfl <| qc_bipush (qc_at qkX11_query 2 rfl) <| ?_
  refine qc_icmp_lt (qc_at qkX11_query 3 rfl) (fun hx => ?_) (fun hx => absurd (by rw [h6]; exact (qi_lt (b := 12) (by omega) (by decide)).mpr h12) hx)
  refine qc_aload_n (qc_at qkX11_query 6 rfl) rfl <| qc_gR (qc_at qkX11_query 7 rfl) hn rfl (qfr_256_2 hR) rfl <| ?_
  refine qc_cV (ci := 2) (a0 := 267) (qc_at qkX11_query 8 rfl) ql_11_123 qfX2_read (qc_kf hn rfl) rfl hV rfl rfl (Nat.le_of_ble_eq_true rfl) ⟨Nat.le_of_ble_eq_true rfl, Nat.le_of_ble_eq_true rfl⟩ ⟨Nat.le_of_ble_eq_true rfl, Nat.le_of_ble_eq_true rfl⟩ (fun r w4 M4 hz => ?_)
  obtain ⟨rfl, hw4, hP⟩ := hz
  obtain ⟨I4, L4, D4, R4⟩ := M4
  obtain ⟨v1, v2, v3⟩ := qzV_n (kd := kd) (ln := ln) (n := s0 + s1 + s2) (nr := nr) h338
  rw [← hw4] at v1 v2 v3
  obtain ⟨⟨p1, p2, p3, p4⟩, -⟩ := id hP
  have i4 : ∀ a, a < 338 → I4 a = I' a := fun a ha => by
    have : I4 a = qc_z I' N 0 a := p1 a (by omega) (by omega) (by omega) (by omega)
    rw [this, qc_z_off _ _ (by omega)]
  have r4 : ∀ a, a < 338 → R4 a = R' a := fun a ha => by
    have : R4 a = qc_z R' N 255 a := p4 a (by omega)
    rw [this, qc_z_off _ _ (by omega)]
  have hR4 : qc_FR R4 := fun q hq => by
    rw [r4 _ (qz_fl q hq)]
    exact hR' q hq
  refine qc_astore_n (lv' := [(1, _), (0, _)]) (qc_at qkX11_query 9 rfl) rfl rfl <| qc_aload_n (qc_at qkX11_query 10 rfl) rfl <| qc_aload_n (qc_at qkX11_query 11 rfl) rfl <| qc_gR (qc_at qkX11_query 12 rfl) v2 rfl (qfr_256_2 hR4) rfl <| ?_
  refine qc_cVv (ci := 2) (a0 := 267) (qc_at qkX11_query 13 rfl) ql_11_127 qfX2_faultKind (qc_kf v2 rfl) rfl (tX2_faultKind v2 hR4 rfl).2 rfl rfl (Nat.le_of_ble_eq_true rfl) ⟨Nat.le_of_ble_eq_true rfl, Nat.le_of_ble_eq_true rfl⟩ ⟨Nat.le_of_ble_eq_true rfl, Nat.le_of_ble_eq_true rfl⟩ ?_
  rw [i4 268 (by decide), hf]
  refine qc_pI (qc_at qkX11_query 14 rfl) v2 rfl <| qc_aload_n (qc_at qkX11_query 15 rfl) rfl <| qc_gR (qc_at qkX11_query 16 rfl) v2 rfl (qfr_256_1 hR4) rfl <| qc_iconst (qc_at qkX11_query 17 rfl) <| ?_
  have hcut : fX10_cut w4 (qc_u I4 256 8 0) L4 D4 R4 0 = some (true, qc_u (qc_u I4 256 8 0) 265 1 0, L4, D4, R4) := by
    unfold fX10_cut
    rw [if_neg (by decide), if_pos (by rw [qc_u_ne _ _ (Or.inl (by decide)), i4 265 (by decide)]; exact ht)]
  refine qc_cVv (ci := 8) (a0 := 265) (qc_at qkX11_query 18 rfl) ql_11_120 qfX10_cut (qc_kf v2 rfl) rfl (tX10_cut v2 hR4 hcut).2 rfl rfl (Nat.le_of_ble_eq_true rfl) ⟨Nat.le_of_ble_eq_true rfl, Nat.le_of_ble_eq_true rfl⟩ ⟨Nat.le_of_ble_eq_true rfl, Nat.le_of_ble_eq_true rfl⟩ ?_
  have e6 : qc_u (qc_u I4 256 8 0) 265 1 0 256 6 = nI n := by rw [qc_u_ne _ _ (Or.inl (by decide)), qc_u_ne _ _ (Or.inr (by decide)), i4 256 (by decide)]; exact h6'
  have en : (nI n).toNatClampNeg = n := nI_clamp (by omega)
  refine qc_pop (qc_at qkX11_query 19 rfl) rfl <| qc_aload_n (qc_at qkX11_query 20 rfl) rfl <| qc_ifnonnull (qc_at qkX11_query 21 rfl) <| qc_aload_n (qc_at qkX11_query 28 rfl) rfl <| qc_gR (qc_at qkX11_query 29 rfl) v2 rfl (qfr_256_5 hR4) rfl <| qc_aload_n (qc_at qkX11_query 30 rfl) rfl <| qc_gI (qc_at qkX11_query 31 rfl) v2 rfl <| qc_aload_n (qc_at qkX11_query 32 rfl) rfl <| ?_
  rw [e6]
  refine qc_aast 1 6 (Or.inr ⟨rfl, rfl⟩) (n := 12) (qc_at qkX11_query 33 rfl) (qc_kfa v2 rfl) (qz_in h12 (by decide)) v3 <| ?_
  rw [en]
  refine qc_aload_n (qc_at qkX11_query 34 rfl) rfl <| qc_dup (qc_at qkX11_query 35 rfl) rfl <| qc_gI (qc_at qkX11_query 36 rfl) v2 rfl <| qc_iconst (qc_at qkX11_query 37 rfl) <| qc_iadd (qc_at qkX11_query 38 rfl) <| ?_
  rw [e6, qi_s1]
  refine qc_pI (qc_at qkX11_query 39 rfl) v2 rfl <| qc_aload_n (qc_at qkX11_query 40 rfl) rfl <| qc_gI (qc_at qkX11_query 41 rfl) v2 rfl <| qc_iconst (qc_at qkX11_query 42 rfl) <| qc_isub (qc_at qkX11_query 43 rfl) <| ?_
  rw [qc_u_at, show nI (n + 1) - 1 = nI n from qi_sub (a := n + 1) (b := 1) (by omega)]
  exact qc_iret (qc_at qkX11_query 44 rfl) rfl (Nat.le_of_ble_eq_true rfl) (Nat.le_of_ble_eq_true rfl) ⟨rfl, hw4, (I4, L4, D4, R4), hP, rfl⟩
end
