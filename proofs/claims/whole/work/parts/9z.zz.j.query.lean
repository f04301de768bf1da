/-! query, the pair -/
section
variable {w : qcW} {I : qTI} {L : qTL} {D : qTD} {R : qTR}
/-- the acts of a part, from the row to the list -/
theorem kC_get {c h pk : Nat} {l : List (Nat × Nat)} {J : qTI} (hk : kC c l h pk J) (hl : l.length ≤ 200) {i : Nat} {e : Nat × Nat} (he : l[i]? = some e) : J (c + 1) i = nI e.1 ∧ J (c + 2) i = nI e.2 := hk.2.2.2.2.2 hl i e he
set_option maxHeartbeats 4000000 in
theorem q2_query (h : Inv w (I, L, D, R)) (hW : qc_WF w) : qc_pr Iv qmX11_query qmX12_query [] w (I, L, D, R) qc_oki := by
  obtain ⟨N, kd, ln0⟩ := w
  have hn : qcNF ≤ N := h.1
  have hNF : qcNF = 338 := rfl
  have h338 : 338 ≤ N := by omega
  obtain ⟨a1, hR, a3, hcol, htape, a6, a7, ⟨a8, n, a9, a10, a11⟩, a12⟩ := id h
  have hR : qc_FR R := hR
  have a9 : I 256 6 = nI n := a9
  have a8 : I 256 6 = I 291 40 := a8
  have h40 : I 291 40 = nI n := a8.symm.trans a9
  by_cases h12 : n = 12
  · have hV := qz_full (kd := kd) (ln := ln0) (I := I) (L := L) (D := D) (R := R) hn (by rw [a9, h12]; decide)
    have hM : fX12_query (N, kd, ln0) I L D R = some (-2, I, L, D, R) := by
      unfold fX12_query
      rw [if_pos (by rw [h40, h12]; rfl)]
    refine ⟨214, 8, 1500, 12, by decide, by decide, by decide, by decide, qc_V.mono hV (fun r1 w1 M1 hz => ?_)⟩
    obtain ⟨rfl, rfl, rfl⟩ := hz
    refine ⟨_, rfl, ⟨_, rfl⟩, hn, qc_V.mono (tX12_query hn hR hM).2 (fun r2 w2 M2 hz => ?_)⟩
    obtain ⟨rfl, rfl, rfl⟩ := hz
    exact ⟨rfl, h, hW⟩
  have hlt : n < 12 := by omega
  obtain ⟨b, len, hb, hT, h7, htp⟩ := qy_text (I := I) htape
  obtain ⟨ln, hln, hC, hCm⟩ := qy_cols (I := I) hcol
  obtain ⟨u, I', D', R', e1, f1, p1, p2⟩ := cx_read (w := (N, kd, ln0)) (L := L) (D := D) hW hb (fun c _ => hln c) hT hC hR
  have i6 : I 256 6 < 12 := by rw [a9]; exact (qi_lt (b := 12) (by omega) (by decide)).mpr hlt
  have low : ∀ a, a ≠ 267 → a ≠ 268 → ¬ (270 ≤ a ∧ a ≤ 278) → I' a = I a := f1.1
  have ht : 0 ≤ I' 265 1 := by
    rw [low 265 (by decide) (by decide) (by decide), hT.1]
    exact (qi_le (a := 0) (by decide) (by have := hb.1; omega)).mpr (Nat.zero_le _)
  have ref : ∀ {w' : qcW} {J : qTI} {LJ : qTL} {DJ : qTD} {RJ : qTR}, (∀ a, 291 ≤ a → a < 338 → J a = I a) → ∃ (r : Int32) (I2 : qTI) (L2 : qTL) (D2 : qTD), fX12_query w' J LJ DJ RJ = some (r, I2, L2, D2, RJ) ∧ nQ b ln len n J LJ DJ r I2 L2 D2 := fun {w' J LJ DJ RJ} hJ => by
    refine mx_query (w := w') hb (fun c _ => hln c) hlt ?_ ?_ (fun p hp => ?_) (fun cc hcc => ?_)
    · rw [hJ 291 (by decide) (by decide)]; exact h40
    · rw [hJ 291 (by decide) (by decide)]; exact h7
    · rw [hJ 297 (by decide) (by decide)]; exact htp p hp
    · rw [hJ 292 (by decide) (by decide), hJ 293 (by decide) (by decide)]; exact hCm cc hcc
  -- a fault, told
  have bad : ∀ e, rE 6000 e I' R' → (∀ {r J LJ DJ I2 L2 D2}, nQ b ln len n J LJ DJ r I2 L2 D2 → r = -10 - nI e.2 ∧ I2 291 64 = nI e.1 ∧ I2 291 40 = nI n) → qc_pr Iv qmX11_query qmX12_query [] (N, kd, ln0) (I, L, D, R) qc_oki := fun e he hq => by
    have hV := qz_queryE hn hR he.2.1 i6 e1 (rE_6 he) ht
    refine ⟨214, 8, 1500, 12, by decide, by decide, by decide, by decide, qc_V.mono hV (fun r1 w1 M1 hz => ?_)⟩
    obtain ⟨rfl, rfl, rfl⟩ := hz
    have off : ∀ a k, ¬ (a = 256 ∧ (k = 6 ∨ k = 8)) → ¬ (a = 265 ∧ k = 1) → qc_u (qc_u I' 256 8 (I' 268 6)) 265 1 0 a k = I' a k := fun a k b1 b2 => by rw [qc_u_ne _ _ (by omega), qc_u_ne _ _ (by omega)]
    obtain ⟨r, I2, L2, D2, k1, k2⟩ := ref (w' := (N, kd, ln0)) (J := qc_u (qc_u I' 256 8 (I' 268 6)) 265 1 0) (LJ := L) (DJ := D') (RJ := R') (fun a b1 b2 => by rw [qc_u_off _ _ (by omega), qc_u_off _ _ (by omega), low a (by omega) (by omega) (by omega)])
    obtain ⟨r1, r2, r3⟩ := hq k2
    refine ⟨_, rfl, ⟨_, rfl⟩, hn, qc_V.mono (tX12_query hn he.2.1 k1).2 (fun r' w2 M2 hz => ?_)⟩
    obtain ⟨rfl, rfl, rfl⟩ := hz
    have hN := k2.1.1
    refine ⟨by rw [r1, he.1.2.2.2.1], inv_after (n := n) (m := n) h (fun _ _ => ⟨rfl, rfl⟩) (Nat.le_refl _) (qyF_of f1 (fun a k _ b1 b2 => off a k b1 b2) (fun _ _ _ => rfl) hN (fun a k _ b1 => k2.1.2.1 a k b1) k2.1.2.2 (fun _ _ _ _ => rfl)) a9 a10 he.2.1 ?_ k2.2.1 ?_ ?_ r3 (Or.inl rfl), hW⟩
    · rw [hN 265 1 (by omega) (by omega) (by omega) (by omega) (by omega), qc_u_at]
    · rw [hN 256 8 (by omega) (by omega) (by omega) (by omega) (by omega), qc_u_ne _ _ (by omega), qc_u_at, r2, he.1.1]
    · rw [hN 256 6 (by omega) (by omega) (by omega) (by omega) (by omega), qc_u_ne _ _ (by omega), qc_u_ne _ _ (by omega), low 256 (by decide) (by decide) (by decide), a9]
  cases hr : q_read b ln qN with
  | inl e => exact bad e (p2 e hr) (fun {r J LJ DJ I2 L2 D2} k => k.2.2.1 e hr)
  | inr s =>
    obtain ⟨sort, x, st⟩ := s
    obtain ⟨q1, q2⟩ := p1 (sort, x, st) hr
    by_cases hbig : q_big ln sort x
    · exact bad (6, len) (q1 hbig) (fun {r J LJ DJ I2 L2 D2} k => k.2.2.2.1 (sort, x, st) hr hbig)
    obtain ⟨K, hG, hK⟩ := q2 hbig
    have hG : rG b ln len st K (q_z sort x) I' D' R' := hG
    obtain ⟨⟨g0, -, k0⟩, ⟨g1, -, k1⟩, g2, -, k2⟩ := hK
    have k0 : K 270 = (q_c0 x.1, g0, q_n0 x.1) := k0
    have k1 : K 273 = (q_c1 ln sort x, g1, q_n1 sort x) := k1
    have k2 : K 276 = (q_c0 x.2.2.1, g2, q_n0 x.2.2.1) := k2
    have c0 := hG.1.2.2.2.2.2.2 270 (by decide)
    have c1 := hG.1.2.2.2.2.2.2 273 (by decide)
    have c2 := hG.1.2.2.2.2.2.2 276 (by decide)
    rw [k0] at c0
    rw [k1] at c1
    rw [k2] at c2
    dsimp only at c0 c1 c2
    have l0 : (q_c0 x.1).length ≤ 200 := by unfold q_big at hbig; omega
    have l1 : (q_c1 ln sort x).length ≤ 200 := by unfold q_big at hbig; omega
    have l2 : (q_c0 x.2.2.1).length ≤ 200 := by unfold q_big at hbig; omega
    have hFR' : qc_FR R' := hG.1.2.2.1
    have hf : I' 268 6 = 0 := hG.1.2.2.2.1.2.2.1
    obtain ⟨hnr, hre⟩ := hG.1.2.2.2.2.2.1
    have h63 : qt_m b 0 ≠ 63 := fun u => by unfold q_read at hr; rw [if_pos u] at hr; cases hr
    have hG0 : qs_G b len (0, []) := ⟨Nat.zero_le _, h63, show 4 * 0 ≤ 0 + 1 by omega, fun _ => show 4 * 0 ≤ 0 by omega⟩
    obtain ⟨o1, o2, o3, o4⟩ := q_read_ok hb (fun c _ => hln c) hG0 hr
    have o1 : sort < 3 := o1
    have o3 : q_ok ln st.2.length sort x := o3
    obtain ⟨v1, v2, v3⟩ := q_read_few hb hln h63 hr
    have v1 : st.2.length < 100 := v1
    have v2 : ∀ v ∈ st.2, qc_n64 v = true := v2
    obtain ⟨z1, z2, z3, z4, z5, z6⟩ := hG.2.1
    have m7 : Nat.beq (R' 267 7) 255 = false := by
      rw [z5]
      unfold q_z q_fm
      dsimp only
      repeat' split
      all_goals rfl
    have m8 : Nat.beq (R' 267 8) 255 = false := by
      rw [z6]
      unfold q_z q_hm
      dsimp only
      repeat' split
      all_goals rfl
    have i6' : I' 256 6 = nI n := by rw [low 256 (by decide) (by decide) (by decide)]; exact a9
    have hV := qz_query hn hR hFR' a9 i6' hlt e1 hf ht c0.2.1 c1.2.1 c2.2.1 l0 l1 l2 hnr v1 m7 m8
    refine ⟨214, 8, 1500, 12, by decide, by decide, by decide, by decide, qc_V.mono hV (fun r1 w1 M1 hz => ?_)⟩
    obtain ⟨rfl, rfl, M4, hP, rfl⟩ := hz
    obtain ⟨I4, L4, D4, R4⟩ := M4
    obtain ⟨⟨b1, b2, b3, b4⟩, ⟨r0, r1, r2, r3, r4, r5⟩, ⟨x6, x7, x8, x9⟩, ⟨t0, t1, t2, t3⟩, ⟨y0, y1, y2⟩, yD⟩ := hP
    dsimp only at b1 b2 b3 b4 r0 r1 r2 r3 r4 r5 x6 x7 x8 x9 t0 t1 t2 t3 y0 y1 y2 yD
    have zo : ∀ {α : Type} (f : Nat → Nat → α) (a : Nat) (v : α), a < N → qc_z f N v a = f a := fun f a v ha => qc_z_off _ _ (by omega)
    have i4 : ∀ a, a < N → I4 a = I' a := fun a ha => by rw [b1 a (by omega) (by omega) (by omega) (by omega), zo _ _ _ ha]
    have d4 : ∀ a, a < N → D4 a = D' a := fun a ha => by rw [b3 a (by omega), zo _ _ _ ha]
    have rr4 : ∀ a, a < N → R4 a = R' a := fun a ha => by rw [b4 a (by omega), zo _ _ _ ha]
    have ll4 : ∀ a, a < N → L4 a = L a := fun a ha => by rw [b2, zo _ _ _ ha]
    have hFR4 : qc_FR (qc_u R4 290 n N) := fun q hq => by
      have h1 := qz_fl q hq
      have h2 : q.1 ≠ 290 := by
        have : ∀ q ∈ qc_frL, q.1 ≠ 290 := by decide
        exact this q hq
      rw [qc_u_ne _ _ (Or.inl h2), rr4 _ (by omega)]
      exact hFR' q hq
    obtain ⟨J, hJ⟩ : ∃ J, J = qc_u (qc_u (qc_u I4 256 8 0) 265 1 0) 256 6 (nI (n + 1)) := ⟨_, rfl⟩
    have jo : ∀ a k, ¬ (a = 256 ∧ (k = 6 ∨ k = 8)) → ¬ (a = 265 ∧ k = 1) → J a k = I4 a k := fun a k b1 b2 => by rw [hJ, qc_u_ne _ _ (by omega), qc_u_ne _ _ (by omega), qc_u_ne _ _ (by omega)]
    obtain ⟨wl1, wl2, wl3⟩ := qzV_n (kd := kd) (ln := ln0) (n := (q_c0 x.1).length + (q_c1 ln sort x).length + (q_c0 x.2.2.1).length) (nr := st.2.length) h338
    obtain ⟨r, I2, L2, D2, m1, m2⟩ := ref (w' := qzV kd ln0 N ((q_c0 x.1).length + (q_c1 ln sort x).length + (q_c0 x.2.2.1).length) st.2.length) (J := J) (LJ := L4) (DJ := D4) (RJ := qc_u R4 290 n N) (fun a b1 b2 => by
      funext k
      rw [jo a k (by omega) (by omega), i4 a (by omega), low a (by omega) (by omega) (by omega)])
    obtain ⟨⟨hN, hL2, hD2⟩, n7, -, -, nn⟩ := m2
    obtain ⟨j1, j2, j3, j4, j5, j6, j7, j8, j9, j10, j11, j12⟩ := nn (sort, x, st) hr hbig
    dsimp only at j1 j2 j3 j4 j5 j6 j7 j8 j9 j10 j11 j12
    refine ⟨_, rfl, ⟨_, rfl⟩, wl2, ?_⟩
    show qc_V 12 0 0 qmX12_query [.ref 291] _ (qc_u (qc_u (qc_u I4 256 8 0) 265 1 0) 256 6 (nI (n + 1)), L4, D4, qc_u R4 290 n N) _
    rw [← hJ]
    refine qc_V.mono (tX12_query wl2 hFR4 m1).2 (fun r' w2 M2 hz => ?_)
    obtain ⟨rfl, rfl, rfl⟩ := hz
    have low2 : ∀ a k, a ≤ 290 → I2 a k = J a k := fun a k ha => hN a k (by omega) (by omega) (by omega) (by omega) (by omega)
    have hi2 : ∀ a k, 338 ≤ a → I2 a k = I4 a k := fun a k ha => by rw [hN a k (by omega) (by omega) (by omega) (by omega) (by omega), jo a k (by omega) (by omega)]
    have hD22 : ∀ a k, 338 ≤ a → D2 a k = D4 a k := fun a k ha => hD2 a k (by omega) (by omega)
    refine ⟨by rw [j1], inv_after (n := n) (m := n + 1) h (fun a ha => qzV_lo ha) (by rw [wl1]; show N ≤ N + 5; omega) (qyF_of f1 (fun a k b0 b1 b2 => by rw [jo a k b1 b2, i4 a b0]) (fun a k b0 => by rw [d4 a b0]) hN (fun a k b0 b1 => by rw [hL2 a k b1, ll4 a b0]) hD2 (fun a k b0 b1 => by rw [qc_u_ne _ _ (by omega), rr4 a b0])) a9 a10 hFR4 ?_ n7 ?_ ?_ j3 (Or.inr ⟨rfl, hlt, ?_⟩), qzV_WF hW⟩
    · rw [low2 265 1 (by decide), hJ, qc_u_ne _ _ (by omega), qc_u_at]
    · rw [low2 256 8 (by decide), hJ, qc_u_ne _ _ (by omega), qc_u_ne _ _ (by omega), qc_u_at, j2]
    · rw [low2 256 6 (by decide), hJ, qc_u_at]
    · obtain ⟨wa, ⟨wb1, wb2⟩, ⟨wc1, wc2⟩, ⟨wd1, wd2⟩, we1, we2⟩ := qzV_hi (kd := kd) (ln0 := ln0) (n := (q_c0 x.1).length + (q_c1 ln sort x).length + (q_c0 x.2.2.1).length) (nr := st.2.length) h338
      have vs : ∀ a, 338 ≤ a → qv_vis a = true := fun a ha => by unfold qv_vis; simp only [Bool.or_eq_true, Nat.ble_eq]; exact Or.inl (Or.inl (Or.inl ha))
      have vI : ∀ a k, 338 ≤ a → qv 0 I2 a k = I4 a k := fun a k ha => by rw [qv_on _ _ (vs a ha)]; exact hi2 a k ha
      have vR : ∀ a k, 338 ≤ a → qv 0 (qc_u R4 290 n N) a k = R4 a k := fun a k ha => by rw [qv_on _ _ (vs a ha), qc_u_ne _ _ (by omega)]
      have vD : ∀ a k, 338 ≤ a → qv 0 D2 a k = D4 a k := fun a k ha => by rw [qv_on _ _ (vs a ha)]; exact hD22 a k ha
      have g267 : ∀ k, qc_z I' N 0 267 k = I' 267 k := fun k => by rw [zo _ _ _ (by omega)]
      have gR : ∀ k, qc_z R' N 255 267 k = R' 267 k := fun k => by rw [zo _ _ _ (by omega)]
      have gI : ∀ a, a < 338 → qc_z I' N 0 a = I' a := fun a ha => zo _ _ _ (by omega)
      have kPv : ∀ {p : Nat} {l : List (Nat × Nat)}, kP n p l I2 → kP n p l (qv 0 I2) := fun {p l} hk => by
        unfold kP at hk ⊢
        rw [qv_on _ _ (rfl : qv_vis 317 = true), qv_on _ _ (rfl : qv_vis 315 = true), qv_on _ _ (rfl : qv_vis 316 = true)]
        exact hk
      refine qb_new (N := N) (nr := st.2.length) (sort := sort) (x := x) (ln := ln) (rs := st.2) o1 o3 v3 hbig (by omega) o4 rfl rfl rfl rfl v2 ?_ h338 wa wb1 wb2 wc1 wc2 wd1 wd2 we1 we2 ?_ ?_ ?_ ?_ ?_ ?_ ?_ ?_ ?_ ?_ ?_ ?_ ?_ ?_ (fun i e he => ?_) (fun i e he => ?_) (fun i e he => ?_) (fun i v hv => ?_) (fun i v hv => ?_) (kPv j4) (kPv j5) (kPv j6) ?_ ?_ ?_ ?_ ?_
      · rw [qv_on _ _ (rfl : qv_vis 290 = true), qc_u_at]
      · rw [vR N 0 h338]; exact r0
      · rw [vR N 1 h338]; exact r1
      · rw [vR N 2 h338]; exact r2
      · rw [vR N 3 h338]; exact r3
      · rw [vR N 4 h338, r4, gR, z5]; rfl
      · rw [vR N 5 h338, r5, gR, z6]; rfl
      · rw [vI N 6 h338, x6, g267, z1]; rfl
      · rw [vI N 7 h338, x7, g267, z2]; rfl
      · rw [vI N 8 h338, x8, g267, z3]; rfl
      · rw [vI N 9 h338, x9, g267, z4]; rfl
      · rw [vI _ _ (by omega)]; exact t0
      · rw [vI _ _ (by omega)]; exact t1
      · rw [vI _ _ (by omega)]; exact t2
      · rw [vI _ _ (by omega)]; exact t3
      · rw [vI _ _ (by omega), vI _ _ (by omega), (y0 i (qs_ltl he)).1, (y0 i (qs_ltl he)).2, gI 271 (by decide), gI 272 (by decide)]
        exact kC_get c0 l0 he
      · rw [vI _ _ (by omega), vI _ _ (by omega), (y1 i (qs_ltl he)).1, (y1 i (qs_ltl he)).2, gI 274 (by decide), gI 275 (by decide)]
        exact kC_get c1 l1 he
      · rw [vI _ _ (by omega), vI _ _ (by omega), (y2 i (qs_ltl he)).1, (y2 i (qs_ltl he)).2, gI 277 (by decide), gI 278 (by decide)]
        exact kC_get c2 l2 he
      · rw [vD _ _ (by omega), yD i (qs_ltl hv), zo _ _ _ (by omega)]
        exact hre i v hv
      · rw [qv_on _ _ (rfl : qv_vis 305 = true)]
        exact j12 i v hv
      · rw [qv_on _ _ (rfl : qv_vis 322 = true)]; exact j7
      · rw [qv_on _ _ (rfl : qv_vis 318 = true)]; exact j8
      · rw [qv_on _ _ (rfl : qv_vis 319 = true)]; exact j9
      · rw [qv_on _ _ (rfl : qv_vis 320 = true)]; exact j10
      · rw [qv_on _ _ (rfl : qv_vis 321 = true)]; exact j11
end
