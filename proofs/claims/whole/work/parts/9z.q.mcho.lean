/-! the reference reads as the spec does: commas, choices -/
section
variable {w : qcW} {I I0 : qTI} {L L0 : qTL} {D D0 : qTD} {R : qTR} {b ln : Nat → Nat} {len q o N n : Nat} {τ : Option (Nat × Nat)} {st : qP} {J : qJs} {P : List Nat} {F : qFs} {ds : List qDen} {x1 x3 : Int32} {f : Nat × Nat × Int32 × Nat × Int32}
/-- the rest of a text behind a token that must stand -/
def mW (w : qcW) (b : Nat → Nat) (q : Nat) (I0 : qTI) (L0 : qTL) (D0 : qTD) (R : qTR) (x1 : Int32) (o : Nat) (J : qJs) (P : List Nat) (F : qFs) (ds : List qDen) (N : Nat) (r : qR qP) (out : qcO Int32) : Prop :=
  ∃ (I : qTI) (L : qTL) (D : qTD), (∀ st, r = .inr st → mR b q I0 L0 D0 none st o J P F ds I L D ∧ out = fX12_expression_l27 w N (I, L, D, R, x1, 1, 1)) ∧ (∀ e, r = .inl e → (∃ st', mR b q I0 L0 D0 (some e) st' o J P F ds I L D) ∧ out = some (0, I, L, D, R))
theorem me_comma (hb : qt_B b len) (hS : mS b ln len q I0) {n' m y : Nat} {at_ : Int32} (h : mR b q I0 L0 D0 none st (o + 1) J (y :: P) ((3, J.length, at_, m - 22, -1) :: F) ds I L D) (hG : mG b len st (o + 1) J (y :: P) ((3, J.length, at_, m - 22, -1) :: F) ds (N + 1)) (hF1 : 1 ≤ F.length) (hn : 3 ≤ n') (hm : m = 27 ∨ m = 28) (st0 : qP) : mW w b q I0 L0 D0 R x1 (o + 1) J P ((3, J.length, at_, m - 22, nI y) :: F) ds N (qs_ex b 58 st) (K_e w R x1 N n' I L D st0) := by
  obtain ⟨g1, g2, g3, g4, g5, g6⟩ := mG_le hb hG
  rw [List.length_cons] at g2 g4
  obtain ⟨t1, t2, t3, t4, t5, t6, t7⟩ := mR_ft h (by omega)
  obtain ⟨n', rfl⟩ : ∃ k, n' = k + 2 := ⟨n' - 2, by omega⟩
  obtain ⟨N, rfl⟩ : ∃ k, N = k + 1 := ⟨N - 1, by omega⟩
  obtain ⟨u1, u2, u3⟩ := mr_taken (w := w) (R := R) h (by omega)
  obtain ⟨v1, v2, v3, v4, v5, v6, v7⟩ := mR_ft u2 (by omega)
  obtain ⟨I1, L1, D1, k1, k2, k3⟩ := mr_want (w := w) (R := R) (c := 44) (m := 58) (fun I L D m' h => ms_58 h) hb hS u2 (mG_st hG)
  have t4 : I 313 F.length = nI (m - 22) := t4
  have v5 : (qc_u I 291 32 (nI P.length)) 314 F.length = -1 := v5
  have he : fX12_ends w I L D R = some (0, qc_u I1 314 F.length (nI y), L1, D1, R) := by
    have e30 : fX12_endsFunction_b30 w (qc_u I 291 32 (nI P.length)) L D R (nI F.length) (nI (m - 22)) (nI y) = some (false, qc_u I1 314 F.length (nI y), L1, D1, R) := by
      unfold fX12_endsFunction_b30
      rw [t6, qc_gdt, t7, v5, if_pos rfl, k1, qc_bds, qc_gdt]
    unfold fX12_ends
    rw [t1, t6, qc_gdt, t7, t2, if_neg (show ¬ nI 3 = 1 by decide), if_neg (show ¬ nI 3 = 2 by decide), if_pos (show nI 3 = 3 from rfl)]
    unfold fX12_endsFunction
    rw [t1, t6, qc_gdt, u1, qc_bds, t7, t4, e30]
    rcases hm with z | z
    · subst z; rfl
    · subst z; rfl
  have up : ∀ {τ st'}, mR b q I0 L0 D0 τ st' (o + 1) J P ((3, J.length, at_, m - 22, -1) :: F) ds I1 L1 D1 → mR b q I0 L0 D0 τ st' (o + 1) J P ((3, J.length, at_, m - 22, nI y) :: F) ds (qc_u I1 314 F.length (nI y)) L1 D1 := fun m1 => by
    obtain ⟨f1, f2, f3, f4, f5, f6, f7⟩ := mR_ft m1 (by omega)
    have e3 := m1.2.2.2.2.2.1.2.1.2.1
    have e8 := m1.2.2.2.2.2.1.2.1.2.2.2.2.2.2
    refine mR_tf m1 (fun a k hk => qc_u_ne _ _ (by omega)) ?_ ?_ ?_ ?_ (qc_u_at _ _ _ _) (show 3 ≤ 5 by decide) e8
    · rw [qc_u_ne _ _ (Or.inl (by decide))]; exact f2
    · rw [qc_u_ne _ _ (Or.inl (by decide))]; exact e3
    · rw [qc_u_ne _ _ (Or.inl (by decide))]; exact f3
    · rw [qc_u_ne _ _ (Or.inl (by decide))]; exact f4
  unfold K_e
  rw [e309 h (by rw [List.length_cons]; omega) he]
  refine ⟨qc_u I1 314 F.length (nI y), L1, D1, fun st2 ha => ?_, fun e ha => ?_⟩
  · have m2 := up (k2 st2 ha)
    exact ⟨m2, e309_0 m2⟩
  · have m2 := up (k3 e ha)
    exact ⟨⟨st, m2⟩, mE_309 m2 _⟩
theorem me_colon (hb : qt_B b len) (hS : mS b ln len q I0) {n' y c : Nat} {at_ : Int32} (h : mR b q I0 L0 D0 none st (o + 1) J (y :: P) ((4, J.length, at_, c, -1) :: F) ds I L D) (hG : mG b len st (o + 1) J (y :: P) ((4, J.length, at_, c, -1) :: F) ds (N + 1)) (hF1 : 1 ≤ F.length) (hn : 3 ≤ n') (st0 : qP) : mW w b q I0 L0 D0 R x1 (o + 1) J P ((5, J.length, nI (qt_from b st.1), c, nI y) :: F) ds N (qs_ex b 60 st) (K_e w R x1 N n' I L D st0) := by
  obtain ⟨g1, g2, g3, g4, g5, g6⟩ := mG_le hb hG
  rw [List.length_cons] at g2 g4
  obtain ⟨t1, t2, t3, t4, t5, t6, t7⟩ := mR_ft h (by omega)
  obtain ⟨n', rfl⟩ : ∃ k, n' = k + 2 := ⟨n' - 2, by omega⟩
  obtain ⟨N, rfl⟩ : ∃ k, N = k + 1 := ⟨N - 1, by omega⟩
  obtain ⟨I1, L1, D1, k1, k2, k3⟩ := mr_want (w := w) (R := R) (c := 58) (m := 60) (fun I L D m' h => ms_60 h) hb hS h (mG_st hG)
  obtain ⟨G, hGd⟩ : ∃ G, G = qc_u (qc_u I1 310 F.length 5) 312 F.length (nI (qt_from b st.1)) := ⟨_, rfl⟩
  have up : ∀ {τ st'}, mR b q I0 L0 D0 τ st' (o + 1) J (y :: P) ((4, J.length, at_, c, -1) :: F) ds I1 L1 D1 → (fX12_taken w G L1 D1 R = some (nI y, qc_u G 291 32 (nI P.length), L1, D1, R) ∧ mR b q I0 L0 D0 τ st' (o + 1) J P ((5, J.length, nI (qt_from b st.1), c, nI y) :: F) ds (qc_u (qc_u G 291 32 (nI P.length)) 314 F.length (nI y)) L1 D1) := fun {τ st'} m1 => by
    obtain ⟨f1, f2, f3, f4, f5, f6, f7⟩ := mR_ft m1 (by omega)
    have e3 := m1.2.2.2.2.2.1.2.1.2.1
    have e8 := m1.2.2.2.2.2.1.2.1.2.2.2.2.2.2
    have mg : mR b q I0 L0 D0 τ st' (o + 1) J (y :: P) ((5, J.length, nI (qt_from b st.1), c, -1) :: F) ds G L1 D1 := by
      rw [hGd]
      refine mR_tf m1 (fun a k hk => by rw [qc_u_ne _ _ (by omega), qc_u_ne _ _ (by omega)]) ?_ ?_ (qc_u_at _ _ _ _) ?_ ?_ (show 5 ≤ 5 by decide) e8
      · rw [qc_u_ne _ _ (Or.inl (by decide)), qc_u_at]; rfl
      · rw [qc_u_ne _ _ (Or.inl (by decide)), qc_u_ne _ _ (Or.inl (by decide))]; exact e3
      · rw [qc_u_ne _ _ (Or.inl (by decide)), qc_u_ne _ _ (Or.inl (by decide))]; exact f4
      · rw [qc_u_ne _ _ (Or.inl (by decide)), qc_u_ne _ _ (Or.inl (by decide))]; exact f5
    obtain ⟨u1, u2, u3⟩ := mr_taken (w := w) (R := R) mg (by omega)
    refine ⟨u1, ?_⟩
    obtain ⟨f1, f2, f3, f4, f5, f6, f7⟩ := mR_ft u2 (by omega)
    have e3 := u2.2.2.2.2.2.1.2.1.2.1
    refine mR_tf u2 (fun a k hk => qc_u_ne _ _ (by omega)) ?_ ?_ ?_ ?_ (qc_u_at _ _ _ _) (show 5 ≤ 5 by decide) e8
    · rw [qc_u_ne _ _ (Or.inl (by decide))]; exact f2
    · rw [qc_u_ne _ _ (Or.inl (by decide))]; exact e3
    · rw [qc_u_ne _ _ (Or.inl (by decide))]; exact f3
    · rw [qc_u_ne _ _ (Or.inl (by decide))]; exact f4
  have he : (fX12_taken w G L1 D1 R = some (nI y, qc_u G 291 32 (nI P.length), L1, D1, R)) → fX12_ends w I L D R = some (0, qc_u (qc_u G 291 32 (nI P.length)) 314 F.length (nI y), L1, D1, R) := fun ht => by
    unfold fX12_ends
    rw [t1, t6, qc_gdt, t7, t2, if_neg (show ¬ nI 4 = 1 by decide), if_neg (show ¬ nI 4 = 2 by decide), if_neg (show ¬ nI 4 = 3 by decide), if_pos (show nI 4 = 4 from rfl), k1, qc_bds, qc_gdt, qc_gdt, mR_10 h, ← hGd, ht, qc_bds, qc_gdt]
  unfold K_e
  refine ⟨qc_u (qc_u G 291 32 (nI P.length)) 314 F.length (nI y), L1, D1, fun st2 ha => ?_, fun e ha => ?_⟩
  · obtain ⟨a1, a2⟩ := up (k2 st2 ha)
    exact ⟨a2, by rw [e309 h (by rw [List.length_cons]; omega) (he a1), e309_0 a2]⟩
  · obtain ⟨a1, a2⟩ := up (k3 e ha)
    exact ⟨⟨st, a2⟩, by rw [e309 h (by rw [List.length_cons]; omega) (he a1)]; exact mE_309 a2 _⟩
/-- behind the : of a choice -/
theorem me_else (hb : qt_B b len) (hS : mS b ln len q I0) {n' c y z at_ nr : Nat} {dc dy dz : qDen} (h : mR b q I0 L0 D0 none st (o + 1) J (z :: P) ((5, J.length, nI at_, c, nI y) :: F) ds I L D) (hG : mG b len st (o + 1) J (z :: P) ((5, J.length, nI at_, c, nI y) :: F) ds (N + 1)) (hn : J.length + F.length + 1 < n') (hc : ds[c]? = some dc) (hy : ds[y]? = some dy) (hz : ds[z]? = some dz) (hD : (dy.1 = 0 ↔ dz.1 = 0) → qs_D nr (d_ch (max dy.1 dz.1) dc dy dz) ∧ (d_ch (max dy.1 dz.1) dc dy dz).2.2.1 ≤ 400) (st0 : qP) (hF1 : 1 ≤ F.length) (hFo : F.length ≤ o + 1) : mV b len q I0 L0 D0 R (K_e w R x1) o J P F ds (qs_fit (Nat.beq dy.1 0 == Nat.beq dz.1 0) at_ <| .inr (d_ch (max dy.1 dz.1) dc dy dz, st)) (K_e w R x1 N n' I L D st0) := by
  obtain ⟨g1, g2, g3, g4, g5, g6⟩ := mG_le hb hG
  rw [List.length_cons] at g2 g4
  obtain ⟨t1, t2, t3, t4, t5, t6, t7⟩ := mR_ft h (by omega)
  obtain ⟨n', rfl⟩ : ∃ k, n' = k + 2 := ⟨n' - 2, by omega⟩
  obtain ⟨N, rfl⟩ : ∃ k, N = k + 1 := ⟨N - 1, by omega⟩
  obtain ⟨u1, u2, u3⟩ := mr_taken (w := w) (R := R) h (by omega)
  obtain ⟨v1, v2, v3, v4, v5, v6, v7⟩ := mR_ft u2 (by omega)
  have m2 := mR_od u2
  have off : ∀ a, a ≠ 291 → (qc_u (qc_u (qc_u I 291 32 (nI P.length)) 291 25 ((qc_u I 291 32 (nI P.length)) 291 25 - 1)) 291 34 ((qc_u (qc_u I 291 32 (nI P.length)) 291 25 ((qc_u I 291 32 (nI P.length)) 291 25 - 1)) 291 34 - 1)) a = (qc_u I 291 32 (nI P.length)) a := fun a ha => by rw [qc_u_off _ _ ha, qc_u_off _ _ ha]
  have h312 := (congrFun (off 312 (by decide)) F.length).trans v3
  have h313 := (congrFun (off 313 (by decide)) F.length).trans v4
  obtain ⟨nc1, nc2, nc3, nc4, nc5⟩ := mR_n m2 hc
  obtain ⟨ny1, ny2, ny3, ny4, ny5⟩ := mR_n m2 hy
  obtain ⟨nz1, nz2, nz3, nz4, nz5⟩ := mR_n m2 hz
  have hc4 : c < 420 := by omega
  have hy4 : y < 420 := by omega
  have v5 : (qc_u I 291 32 (nI P.length)) 314 F.length = nI y := v5
  have ey0 : nI dy.1 = 0 ↔ dy.1 = 0 := kz ny3
  have ez0 : nI dz.1 = 0 ↔ dz.1 = 0 := kz nz3
  have he : fX12_ends w I L D R = fX12_ends_b304 w (qc_u (qc_u (qc_u I 291 32 (nI P.length)) 291 25 ((qc_u I 291 32 (nI P.length)) 291 25 - 1)) 291 34 ((qc_u (qc_u I 291 32 (nI P.length)) 291 25 ((qc_u I 291 32 (nI P.length)) 291 25 - 1)) 291 34 - 1)) L D R (nI F.length) (nI z) (nI y) (if dy.1 = 0 ∧ dz.1 = 0 then 1 else 0) (if (Nat.beq dy.1 0 == Nat.beq dz.1 0) = true then 1 else 0) := by
    unfold fX12_ends
    rw [t1, t6, qc_gdt, t7, t2, if_neg (show ¬ nI 5 = 1 by decide), if_neg (show ¬ nI 5 = 2 by decide), if_neg (show ¬ nI 5 = 3 by decide), if_neg (show ¬ nI 5 = 4 by decide), u1, qc_bds, qc_gdt, v5, qi_inbN hy4 (by decide), qc_gdt, nI_clamp (show y < 2 ^ 31 by omega), ny1]
    unfold fX12_ends_b266 fX12_ends_b267 fX12_ends_b299 fX12_ends_b303
    by_cases a1 : dy.1 = 0
    · rw [if_pos (ey0.mpr a1), qi_inbN u3 (by decide), qc_gdt, nI_clamp (show z < 2 ^ 31 by omega), nz1]
      by_cases a2 : dz.1 = 0
      · rw [if_pos (ez0.mpr a2), if_neg (by decide), if_pos ⟨a1, a2⟩, if_pos (beq0_eq.1 ⟨fun _ => a2, fun _ => a1⟩)]
      · rw [if_neg (fun u => a2 (ez0.mp u)), if_pos rfl, qi_inbN hy4 (by decide), qc_gdt, nI_clamp (show y < 2 ^ 31 by omega), ny1, mq_num ny3, qc_bds, a1, if_neg (show ¬ (!(Nat.beq 0 0)) = true by decide), if_neg (fun u => a2 u.2), beq0_eq.2 (fun u => a2 (u.mp rfl)), if_neg (by decide)]
    · rw [if_neg (fun u => a1 (ey0.mp u)), if_pos rfl, qi_inbN hy4 (by decide), qc_gdt, nI_clamp (show y < 2 ^ 31 by omega), ny1, mq_num ny3, qc_bds, show Nat.beq dy.1 0 = false from Bool.eq_false_iff.mpr (fun u => a1 (qs_beq.mp u)), if_pos (show (!false) = true from rfl), qi_inbN u3 (by decide), qc_gdt, nI_clamp (show z < 2 ^ 31 by omega), nz1, mq_num nz3, qc_bds, show (if dy.1 = 0 ∧ dz.1 = 0 then (1 : Int32) else 0) = 0 from if_neg (fun u => a1 u.1)]
      by_cases a2 : dz.1 = 0
      · rw [a2]; rfl
      · rw [show Nat.beq dz.1 0 = false from Bool.eq_false_iff.mpr (fun u => a2 (qs_beq.mp u))]; rfl
  generalize (qc_u (qc_u (qc_u I 291 32 (nI P.length)) 291 25 ((qc_u I 291 32 (nI P.length)) 291 25 - 1)) 291 34 ((qc_u (qc_u I 291 32 (nI P.length)) 291 25 ((qc_u I 291 32 (nI P.length)) 291 25 - 1)) 291 34 - 1)) = G at he m2 h312 h313 nc1 nc2 ny1 ny2 nz1 nz2
  have h312 : G 312 F.length = nI at_ := h312
  have h313 : G 313 F.length = nI c := h313
  obtain ⟨e1', e2', e3', e4', e5', e6', e7'⟩ := hG
  rw [List.length_cons] at e3' e4' e5'
  have lc : (ds ++ [d_ch (max dy.1 dz.1) dc dy dz])[c]? = some dc := ds_up hc
  have ly : (ds ++ [d_ch (max dy.1 dz.1) dc dy dz])[y]? = some dy := ds_up hy
  have lz : (ds ++ [d_ch (max dy.1 dz.1) dc dy dz])[z]? = some dz := ds_up hz
  unfold K_e
  unfold fX12_ends_b304 at he
  rw [t6, qc_gdt, t7, h312] at he
  unfold qs_fit
  cases hok : (Nat.beq dy.1 0 == Nat.beq dz.1 0) with
  | true =>
    have hiff : dy.1 = 0 ↔ dz.1 = 0 := by
      by_cases u : (dy.1 = 0 ↔ dz.1 = 0)
      · exact u
      · rw [beq0_eq.2 u] at hok; cases hok
    obtain ⟨I4, z1, z2, z3⟩ := mr_needs4 (w := w) (R := R) m2 (ok := true) (x := 1) rfl (j := at_)
    rw [z2 rfl] at z1
    obtain ⟨I5, I6, w1, w2, w3⟩ := mr_nl (w := w) (R := R) m2 (d := d_ch (max dy.1 dz.1) dc dy dz) (x1 := 13) (x2 := nI c) (x3 := nI y) (x4 := nI z) (x5 := 0) (x6 := nI (max dy.1 dz.1)) (by omega) (by omega) (hD hiff).1 (hD hiff).2 rfl (fun I' e => by
      show (qc_gd (qc_inb (nI c) 420) <| qc_gd (qc_inb (nI y) 420) <| qc_gd (qc_inb (nI z) 420) <| qc_bd (fX12_most w I' L D R (I' 304 (Int32.toNatClampNeg (nI y))) (I' 304 (Int32.toNatClampNeg (nI z)))) fun r27 I27 L27 D27 R27 => qc_bd (fX12_most w I27 L27 D27 R27 (I' 304 (Int32.toNatClampNeg (nI c))) r27) fun r28 I28 L28 D28 R28 => some (r28, I28, L28, D28, R28)) = _
      rw [qi_inbN hc4 (by decide), qi_inbN hy4 (by decide), qi_inbN u3 (by decide), qc_gdt, qc_gdt, qc_gdt, nI_clamp (show y < 2 ^ 31 by omega), nI_clamp (show z < 2 ^ 31 by omega), nI_clamp (show c < 2 ^ 31 by omega), e, nc2, ny2, nz2, mq_most (by omega) (by omega), qc_bds, mq_most (by omega) (by omega), qc_bds]
      rfl) (fun T a1 a2 a3 a4 a5 a6 => ⟨a6, Or.inr (Or.inr (Or.inr (Or.inr (Or.inr (Or.inr (Or.inl ⟨c, y, z, dc, dy, dz, a1, a2, a3, a4, nc5, ny5, nz5, lc, ly, lz, rfl⟩))))))⟩)
    have h350 : fX12_ends_b350 w G L D R (nI (max dy.1 dz.1)) 0 (nI z) (nI y) (nI c) 13 = some (2, I6, L, D, R) := by
      unfold fX12_ends_b350
      rw [w1, qc_bds, w2, qc_bds]
    have he2 : fX12_ends w I L D R = some (2, I6, L, D, R) := by
      rw [he, hok, if_pos rfl, z1, qc_bds, qc_gdt, h313]
      by_cases a1 : dy.1 = 0 ∧ dz.1 = 0
      · rw [if_pos a1, if_neg (by decide)]
        rw [a1.1, a1.2] at h350
        exact h350
      · rw [if_neg a1, if_pos rfl, qi_inbN hy4 (by decide), qi_inbN u3 (by decide), qc_gdt, qc_gdt, nI_clamp (show y < 2 ^ 31 by omega), nI_clamp (show z < 2 ^ 31 by omega), ny1, nz1, mq_later ny3 nz3, qc_bds]
        exact h350
    rw [if_pos rfl, e309 h (by rw [List.length_cons]; omega) he2]
    refine mV_s (s := (d_ch (max dy.1 dz.1) dc dy dz, st)) (t := [d_ch (max dy.1 dz.1) dc dy dz]) (x := ds.length) w3 ?_ ?_ (n := n' + 1) (N := N + 1) ?_ rfl
    · rw [List.getElem?_append_right (Nat.le_refl _), Nat.sub_self]; rfl
    · refine ⟨e1', by omega, ?_, ?_, hFo, hF1, e7'⟩
      · rw [List.length_append, List.length_singleton]; show _ ≤ st.1 + 1; omega
      · rw [List.length_cons]; show _ ≤ st.1; omega
    · omega
  | false =>
    obtain ⟨I4, z1, z2, z3⟩ := mr_needs4 (w := w) (R := R) m2 (ok := false) (x := 0) rfl (j := at_)
    have m3 := z3 rfl
    have a1 : ¬ (dy.1 = 0 ∧ dz.1 = 0) := fun u => by rw [u.1, u.2] at hok; cases hok
    obtain ⟨ry1, -⟩ := mR_n m3 hy
    obtain ⟨rz1, -⟩ := mR_n m3 hz
    obtain ⟨I5, w1, w2, w3⟩ := mr_nlE (w := w) (R := R) m3 (by omega) 13 (I4 313 F.length) (nI y) (nI z) 0 (nI (max dy.1 dz.1))
    have he2 : fX12_ends w I L D R = some (2, I5, L, D, R) := by
      rw [he, hok, if_neg (by decide), z1, qc_bds, qc_gdt, if_neg a1, if_pos rfl, qi_inbN hy4 (by decide), qi_inbN u3 (by decide), qc_gdt, qc_gdt, nI_clamp (show y < 2 ^ 31 by omega), nI_clamp (show z < 2 ^ 31 by omega), ry1, rz1, mq_later ny3 nz3, qc_bds]
      unfold fX12_ends_b350
      rw [w1, qc_bds, w2, qc_bds]
    rw [if_neg (by decide), e309 h (by rw [List.length_cons]; omega) he2]
    exact mV_e w3 (mE_309 w3 _)
end
