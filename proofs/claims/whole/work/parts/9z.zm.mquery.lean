/-! the reference's query, all of it -/
def nFk (k : Nat) : Bool := Nat.beq k 7 || Nat.beq k 8 || (Nat.ble 9 k && Nat.ble k 11) || Nat.beq k 13 || (Nat.ble 15 k && Nat.ble k 17) || Nat.beq k 25 || Nat.beq k 26 || Nat.beq k 28 || Nat.beq k 32 || Nat.beq k 34 || Nat.beq k 40 || (Nat.ble 50 k && Nat.ble k 52) || (Nat.ble 57 k && Nat.ble k 64)
def nF (q : Nat) (I0 I : qTI) : Prop := ∀ a k, (a < 298 ∨ 327 < a ∨ a = 315 ∨ a = 316 ∨ a = 317 ∨ (318 ≤ a ∧ a ≤ 323)) → ¬ (a = 291 ∧ nFk k = true) → ¬ ((a = 315 ∨ a = 316) ∧ 600 * q ≤ k ∧ k < 600 * q + 600) → ¬ (a = 317 ∧ 3 * q ≤ k ∧ k < 3 * q + 3) → ¬ (318 ≤ a ∧ a ≤ 323 ∧ k = q) → I a k = I0 a k
theorem nFk_mk : ∀ k ∈ mkL, nFk k = true := by decide
theorem nFk_57 : ∀ k, k < 64 → 57 ≤ k → nFk k = true := by decide
section
variable {w : qcW} {I I0 : qTI} {L L0 : qTL} {D D0 : qTD} {R : qTR} {b ln : Nat → Nat} {len q : Nat}
theorem nF_tr {I1 I2 : qTI} (h : nF q I I1) (g : nF q I1 I2) : nF q I I2 := fun a k h1 h2 h3 h4 h5 => (g a k h1 h2 h3 h4 h5).trans (h a k h1 h2 h3 h4 h5)
theorem nF_u (h : nF q I0 I) {a k : Nat} (v : Int32) (hk : (a = 291 ∧ nFk k = true) ∨ (318 ≤ a ∧ a ≤ 323 ∧ k = q)) : nF q I0 (qc_u I a k v) := fun c j h1 h2 h3 h4 h5 => by
  rw [qc_u_ne _ _ (by
    by_cases e : c = a
    · by_cases e2 : j = k
      · subst e; subst e2
        exfalso
        rcases hk with z | z
        · exact h2 z
        · exact h5 z
      · exact Or.inr e2
    · exact Or.inl e)]
  exact h c j h1 h2 h3 h4 h5
theorem nF_m (h : mF I0 I) : nF q I0 I := fun a k h1 h2 h3 h4 h5 => by
  by_cases z : a < 298 ∨ 314 < a
  · exact h a k z (fun u => h2 ⟨u.1, nFk_mk k u.2⟩)
  · omega
theorem nF_1 (h : ∀ a k, ¬ (a = 291 ∧ 57 ≤ k ∧ k ≤ 63) → I a k = I0 a k) : nF q I0 I := fun a k h1 h2 h3 h4 h5 => h a k (fun u => h2 ⟨u.1, nFk_57 k (by omega) u.2.1⟩)
theorem nF_k (h : kF q I0 I) : nF q I0 I := fun a k h1 h2 h3 h4 h5 => h a k (fun u => h2 ⟨u.1, by rcases u.2 with v | v | v <;> (rw [v]; rfl)⟩) h3 h4 (by omega) (by omega)
/-- what is at the end of a reading -/
theorem nF_N {τ : Option (Nat × Nat)} {x : qX} {st : qP} {ds : List qDen} (h : mN b q I0 L0 D0 τ x st ds I L D) : nF q I0 I ∧ (∀ a k, ¬ (a = 291 ∧ k = 12) → L a k = L0 a k) ∧ (∀ a k, ¬ (a = 291 ∧ k = 14) → ¬ (a = 305 ∧ 100 * q ≤ k) → D a k = D0 a k) ∧ (∀ k, k ≤ 8 ∨ k = 40 ∨ 64 ≤ k → I 291 k = I0 291 k) := by
  obtain ⟨I1, h1, ⟨o, h0, h2⟩, h3⟩ := h
  refine ⟨nF_tr (nF_1 h1) (nF_m h2.1.1), h2.1.2.1, h2.1.2.2, fun k hk => ?_⟩
  rw [h2.1.1 291 k (by decide) (fun u => by have := u.2; unfold mkL at this; simp only [List.mem_cons, List.not_mem_nil, or_false] at this; omega), h1 291 k (by omega)]
theorem kI_N (hb : qt_B b len) (hS : mS b ln len q I0) {x : qX} {st : qP} {ds : List qDen} (h : mN b q I0 L0 D0 none x st ds I L D) (hd : ds.length ≤ 420) : kI ln len q x ds I := by
  obtain ⟨f1, f2, f3, f4⟩ := nF_N h
  have h15 := (mN_15 h).1
  refine ⟨⟨h15, (f4 40 (by omega)).trans hS.2.2.1, hS.2.2.2, (f4 8 (by omega)).trans hS.1.1⟩, ?_, ?_, hd, fun c hc => mN_c hS h hc⟩
  · obtain ⟨I1, h1, h2, h3⟩ := h
    exact h3 rfl
  · obtain ⟨I1, h1, ⟨o, h0, h2⟩, h3⟩ := h
    exact h2.2.2.2.2
/-- the end: told, or kept -/
theorem q_101e {e : Nat × Nat} (h1 : I 291 15 = nI e.1) (he : 1 ≤ e.1 ∧ e.1 ≤ 6) (h2 : I 291 16 = nI e.2) (x1 : Int32) : fX12_query_b101 w I L D R x1 = some (-10 - nI e.2, qc_u I 291 64 (nI e.1), L, D, R) := by
  unfold fX12_query_b101
  rw [qc_u_ne _ _ (Or.inr (by decide)), h1, if_neg (fun y => by have := (qi_le (b := 0) (by omega) (by decide)).mp y; omega), qc_u_ne _ _ (Or.inr (by decide)), h2]
theorem q_101 (h1 : I 291 15 = 0) (h40 : I 291 40 = nI q) (hq : q < 12) (x1 : Int32) : fX12_query_b101 w I L D R x1 = some (nI q, qc_u (qc_u (qc_u (qc_u (qc_u (qc_u (qc_u I 291 64 0) 318 q x1) 319 q (I 291 60)) 320 q (I 291 61)) 321 q (I 291 62)) 323 q (I 291 63)) 291 40 (nI (q + 1)), L, D, R) := by
  unfold fX12_query_b101
  rw [h1, if_pos (by rw [qc_u_ne _ _ (Or.inr (by decide)), h1]; decide)]
  simp only [qc_u_off _ _ (show (291 : Nat) ≠ 318 by decide), qc_u_off _ _ (show (291 : Nat) ≠ 319 by decide), qc_u_off _ _ (show (291 : Nat) ≠ 320 by decide), qc_u_off _ _ (show (291 : Nat) ≠ 321 by decide), qc_u_off _ _ (show (291 : Nat) ≠ 323 by decide), qc_u_ne I (0 : Int32) (Or.inr (show (40 : Nat) ≠ 64 by decide)), qc_u_ne I (0 : Int32) (Or.inr (show (60 : Nat) ≠ 64 by decide)), qc_u_ne I (0 : Int32) (Or.inr (show (61 : Nat) ≠ 64 by decide)), qc_u_ne I (0 : Int32) (Or.inr (show (62 : Nat) ≠ 64 by decide)), qc_u_ne I (0 : Int32) (Or.inr (show (63 : Nat) ≠ 64 by decide)), h40, qi_inbN hq (by decide : 12 < 2 ^ 31), qc_gdt, nI_clamp (show q < 2 ^ 31 by omega), qi_s1, qc_u_at]
  rw [show nI (q + 1) - 1 = nI q from qi_sub (a := q + 1) (b := 1) (by omega)]
/-- what the reference makes of a query -/
def nQ (b ln : Nat → Nat) (len q : Nat) (I0 : qTI) (L0 : qTL) (D0 : qTD) (r : Int32) (I : qTI) (L : qTL) (D : qTD) : Prop :=
  (nF q I0 I ∧ (∀ a k, ¬ (a = 291 ∧ k = 12) → L a k = L0 a k) ∧ (∀ a k, ¬ (a = 291 ∧ k = 14) → ¬ (a = 305 ∧ 100 * q ≤ k) → D a k = D0 a k)) ∧ I 291 7 = 0 ∧
  (∀ e, q_read b ln qN = .inl e → r = -10 - nI e.2 ∧ I 291 64 = nI e.1 ∧ I 291 40 = nI q) ∧
  (∀ s, q_read b ln qN = .inr s → q_big ln s.1 s.2.1 → r = -10 - nI len ∧ I 291 64 = 6 ∧ I 291 40 = nI q) ∧
  (∀ s, q_read b ln qN = .inr s → ¬ q_big ln s.1 s.2.1 → r = nI q ∧ I 291 64 = 0 ∧ I 291 40 = nI (q + 1) ∧ kP q 0 (q_c0 s.2.1.1) I ∧ kP q 1 (q_c1 ln s.1 s.2.1) I ∧ kP q 2 (q_c0 s.2.1.2.2.1) I ∧ q_vk s.1 s.2.1 (I 322 q) ∧ I 318 q = nI s.1 ∧
    (s.2.1.2.2.2.1 ≤ 2 ∧ I 319 q = if s.2.1.2.2.2.1 = 0 then -1 else nI (s.2.1.2.2.2.1 - 1)) ∧ (match s.2.1.2.2.2.2.1 with | none => I 320 q = -1 | some v => I 320 q = nI v ∧ v < 2147483648) ∧ (s.2.1.2.2.2.2.2.1 ≤ 5 ∧ I 321 q = if s.2.1.2.2.2.2.2.1 = 5 then -1 else nI s.2.1.2.2.2.2.2.1) ∧ ∀ i v, s.2.2.2[i]? = some v → D 305 (100 * q + i) = v)
theorem mx_query (hb : qt_B b len) (hln : ∀ c, c < 10 → ln c ≤ 8) (hq : q < 12) (h40 : I 291 40 = nI q) (h7 : I 291 7 = nI len) (htp : ∀ p, p < len → I 297 p = nI (b p)) (hcol : ∀ cc, cc < 10 → (I 292 cc = -1 ∧ ln cc = 8) ∨ ∃ i, i < 11 ∧ I 292 cc = nI i ∧ I 293 i = nI (ln cc) ∧ ln cc < 8) : ∃ (r : Int32) (I' : qTI) (L' : qTL) (D' : qTD), fX12_query w I L D R = some (r, I', L', D', R) ∧ nQ b ln len q I L D r I' L' D' := by
  obtain ⟨I1, hI1⟩ : ∃ I1, I1 = (qc_u (qc_u (qc_u (qc_u (qc_u (qc_u (qc_u (qc_u (qc_u (qc_u (qc_u (qc_u (qc_u I 291 8 (I 291 7)) 291 7 (0 : Int32)) 291 11 (0 : Int32)) 291 15 (0 : Int32)) 291 17 (0 : Int32)) 291 25 (0 : Int32)) 291 26 (0 : Int32)) 291 57 (-1 : Int32)) 291 58 (-1 : Int32)) 291 59 (-1 : Int32)) 291 60 (-1 : Int32)) 291 61 (-1 : Int32)) 291 62 (-1 : Int32)) := ⟨_, rfl⟩
  have off1 : ∀ a, a ≠ 291 → I1 a = I a := fun a ha => by
    rw [hI1]
    simp only [qc_u_off _ _ ha]
  have v8 : I1 291 8 = nI len := by rw [hI1, ← h7]; simp [qc_u]
  have v7 : I1 291 7 = 0 := by rw [hI1]; simp [qc_u]
  have v11 : I1 291 11 = nI 0 := by rw [hI1]; simp [qc_u]; rfl
  have v15 : I1 291 15 = 0 := by rw [hI1]; simp [qc_u]
  have v17 : I1 291 17 = nI 0 := by rw [hI1]; simp [qc_u]; rfl
  have v25 : I1 291 25 = nI 0 := by rw [hI1]; simp [qc_u]; rfl
  have v26 : I1 291 26 = nI 0 := by rw [hI1]; simp [qc_u]; rfl
  have v57 : ∀ k, 57 ≤ k → k ≤ 62 → I1 291 k = -1 := fun k h1 h2 => by
    rcases (show k = 57 ∨ k = 58 ∨ k = 59 ∨ k = 60 ∨ k = 61 ∨ k = 62 by omega) with z | z | z | z | z | z
    all_goals (rw [z, hI1]; simp [qc_u])
  have v40 : I1 291 40 = nI q := by rw [← h40, hI1]; simp [qc_u]
  have n1 : nF q I I1 := by
    have r0 : nF q I I := fun _ _ _ _ _ _ _ => rfl
    rw [hI1]
    exact nF_u (nF_u (nF_u (nF_u (nF_u (nF_u (nF_u (nF_u (nF_u (nF_u (nF_u (nF_u (nF_u r0 _ (Or.inl ⟨rfl, rfl⟩)) _ (Or.inl ⟨rfl, rfl⟩)) _ (Or.inl ⟨rfl, rfl⟩)) _ (Or.inl ⟨rfl, rfl⟩)) _ (Or.inl ⟨rfl, rfl⟩)) _ (Or.inl ⟨rfl, rfl⟩)) _ (Or.inl ⟨rfl, rfl⟩)) _ (Or.inl ⟨rfl, rfl⟩)) _ (Or.inl ⟨rfl, rfl⟩)) _ (Or.inl ⟨rfl, rfl⟩)) _ (Or.inl ⟨rfl, rfl⟩)) _ (Or.inl ⟨rfl, rfl⟩)) _ (Or.inl ⟨rfl, rfl⟩)
  have hS : mS b ln len q I1 := ⟨⟨v8, fun p hp => by rw [off1 297 (by decide)]; exact htp p hp⟩, fun cc hc => by rw [off1 292 (by decide), off1 293 (by decide)]; exact hcol cc hc, v40, hq⟩
  obtain ⟨I2, L2, D2, k1, k2, k3, k4⟩ := mb_tk (w := w) (R := R) (I := I1) (L := L) (D := D) (L0 := L) (D0 := D) (st := (0, [])) (o := 0) (ds := []) hb hS (p := 0) (Nat.zero_le _) v11 v15 ⟨⟨fun _ _ _ _ => rfl, fun _ _ _ => rfl, fun _ _ _ _ => rfl⟩, ⟨v25, v26, fun i v hv => (by cases hv)⟩, v17, fun y d hy => (by cases hy)⟩
  have e0 : fX12_query w I L D R = qc_bd (fX12_read w I2 L2 D2 R) fun r9 I9 L9 D9 R9 => if (I9 291 15) = 0 then (qc_bd (fX12_makes w I9 L9 D9 R9 r9) fun r11 I11 L11 D11 R11 => fX12_query_b101 w I11 L11 D11 R11 r9) else (fX12_query_b101 w I9 L9 D9 R9 r9) := by
    unfold fX12_query
    rw [if_neg (fun u => by rw [h40] at u; have := qi_nI_inj (j := 12) (by omega) (by decide) u; omega), ← hI1, k1, qc_bds]
  rw [e0]
  -- a fault: to the end
  have bad : ∀ {e : Nat × Nat} {v : Int32} {x : qX} {st : qP} {ds : List qDen} {I9 : qTI} {L9 : qTL} {D9 : qTD}, fX12_read w I2 L2 D2 R = some (v, I9, L9, D9, R) → mN b q I1 L D (some e) x st ds I9 L9 D9 → q_read b ln qN = .inl e → ∃ (r : Int32) (I' : qTI) (L' : qTL) (D' : qTD), (qc_bd (fX12_read w I2 L2 D2 R) fun r9 I9 L9 D9 R9 => if (I9 291 15) = 0 then (qc_bd (fX12_makes w I9 L9 D9 R9 r9) fun r11 I11 L11 D11 R11 => fX12_query_b101 w I11 L11 D11 R11 r9) else (fX12_query_b101 w I9 L9 D9 R9 r9)) = some (r, I', L', D', R) ∧ nQ b ln len q I L D r I' L' D' := fun {e v x st ds I9 L9 D9} h1 h2 h3 => by
    obtain ⟨f1, f2, f3, f4⟩ := nF_N h2
    have hsf : sF e I9 := by
      obtain ⟨J1, j1, ⟨o, j0, j2⟩, j3⟩ := h2
      exact j2.2.1
    rw [h1, qc_bds, if_neg (mN_15e h2), q_101e hsf.1 ⟨hsf.2.1, hsf.2.2.1⟩ hsf.2.2.2]
    refine ⟨_, _, _, _, rfl, ⟨nF_u (nF_tr n1 f1) _ (Or.inl ⟨rfl, rfl⟩), f2, f3⟩, ?_, fun e' z => ?_, fun s z => ?_, fun s z => ?_⟩
    · rw [qc_u_ne _ _ (Or.inr (by decide)), f4 7 (by omega)]; exact v7
    · rw [h3] at z; cases z
      exact ⟨rfl, qc_u_at _ _ _ _, by rw [qc_u_ne _ _ (Or.inr (by decide)), f4 40 (by omega)]; exact v40⟩
    · rw [h3] at z; cases z
    · rw [h3] at z; cases z
  by_cases c63 : qt_m b 0 = 63
  · have m2 := k3 c63
    have hN : mN b q I1 L D (some (1, qt_from b 0)) q_x0 (0, []) [] I2 L2 D2 := ⟨I1, fun _ _ _ => rfl, ⟨0, fun _ => rfl, m2⟩, fun u => (by cases u)⟩
    have hts := mN_tsE (w := w) (R := R) hN
    refine bad (v := -1) ?_ hN (by unfold q_read; rw [if_pos c63])
    unfold fX12_read fX12_read_b43 fX12_read_b58
    simp only [mw_5 hts, mw_9 hts, mw_15 hts, qc_bds]
    rw [if_neg (by decide), if_neg (by decide), if_neg (by decide), if_pos trivial, mN_failE hN, qc_bds, mN_nextE hN, qc_bds, if_neg (mN_15p hN)]
  · have m2 := k2 c63
    have hN : mN b q I1 L D none q_x0 (0, []) [] I2 L2 D2 := ⟨I1, fun _ _ _ => rfl, ⟨0, fun _ => rfl, m2⟩, fun _ => by
      have e : ∀ k, 57 ≤ k → k ≤ 62 → I2 291 k = -1 := fun k g1 g2 => (k4 k (by omega)).trans (v57 k g1 g2)
      exact ⟨e 57 (by decide) (by decide), e 58 (by decide) (by decide), e 59 (by decide) (by decide), ⟨by decide, e 60 (by decide) (by decide)⟩, e 61 (by decide) (by decide), ⟨by decide, e 62 (by decide) (by decide)⟩, trivial⟩⟩
    have hG : qs_G b len (0, []) := ⟨Nat.zero_le _, c63, show 4 * 0 ≤ 0 + 1 by omega, fun _ => show 4 * 0 ≤ 0 by omega⟩
    have hP := m_read (w := w) (R := R) hb hS hln c63 hG hN
    cases hr : q_read b ln qN with
    | inl e =>
      obtain ⟨v, x, st, ds, I9, L9, D9, h1, h2⟩ := hP.2 e hr
      exact bad h1 h2 hr
    | inr s =>
      obtain ⟨ds, I9, L9, D9, h1, h2, h3, h4⟩ := hP.1 s hr
      obtain ⟨o1, o2, o3, o4⟩ := q_read_ok hb hln hG hr
      obtain ⟨f1, f2, f3, f4⟩ := nF_N h2
      have hl := hb.1
      have h31 := h3.1
      have hK := kI_N hb hS h2 (by omega)
      obtain ⟨I10, g1, g2, g3⟩ := k_makes (w := w) (L := L9) (D := D9) (R := R) hK o3
      have e15 := (mN_15 h2).1
      rw [h1, qc_bds, if_pos e15]
      by_cases z : q_big ln s.1 s.2.1
      · rw [g3 (fun u => u z), qc_bds]
        have hs1 : (qc_u (qc_u I10 291 15 6) 291 16 (nI len)) 291 15 = nI (6, len).1 := by rw [qc_u_ne _ _ (Or.inr (by decide)), qc_u_at]; rfl
        rw [q_101e (e := (6, len)) hs1 ⟨show 1 ≤ 6 by decide, Nat.le_refl 6⟩ (qc_u_at _ _ _ _)]
        refine ⟨_, _, _, _, rfl, ⟨nF_u (nF_u (nF_u (nF_tr n1 (nF_tr f1 (nF_k g1))) _ (Or.inl ⟨rfl, rfl⟩)) _ (Or.inl ⟨rfl, rfl⟩)) _ (Or.inl ⟨rfl, rfl⟩), f2, f3⟩, ?_, fun e u => ?_, fun s' u v => ?_, fun s' u v => ?_⟩
        · rw [qc_u_ne _ _ (Or.inr (by decide)), qc_u_ne _ _ (Or.inr (by decide)), qc_u_ne _ _ (Or.inr (by decide)), kF_i g1 (by decide), f4 7 (by omega)]; exact v7
        · rw [hr] at u; cases u
        · exact ⟨rfl, qc_u_at _ _ _ _, by rw [qc_u_ne _ _ (Or.inr (by decide)), qc_u_ne _ _ (Or.inr (by decide)), qc_u_ne _ _ (Or.inr (by decide)), kF_i g1 (by decide), f4 40 (by omega)]; exact v40⟩
        · rw [hr] at u; cases u; exact absurd z v
      · obtain ⟨⟨p0, p1, p2, p3⟩, g4⟩ := g2 z
        have h40' : I10 291 40 = nI q := (kF_i g1 (by decide)).trans ((f4 40 (by omega)).trans v40)
        rw [g4, qc_bds, q_101 ((kF_i g1 (by decide)).trans e15) h40' hq]
        have hx := hK.2.1
        have off : ∀ a, a ≠ 291 → a ≠ 318 → a ≠ 319 → a ≠ 320 → a ≠ 321 → a ≠ 323 → (qc_u (qc_u (qc_u (qc_u (qc_u (qc_u (qc_u I10 291 64 0) 318 q (nI s.1)) 319 q (I10 291 60)) 320 q (I10 291 61)) 321 q (I10 291 62)) 323 q (I10 291 63)) 291 40 (nI (q + 1))) a = I10 a := fun a a1 a2 a3 a4 a5 a6 => by
          rw [qc_u_off _ _ a1, qc_u_off _ _ a6, qc_u_off _ _ a5, qc_u_off _ _ a4, qc_u_off _ _ a3, qc_u_off _ _ a2, qc_u_off _ _ a1]
        have kp : ∀ {p l}, kP q p l I10 → kP q p l (qc_u (qc_u (qc_u (qc_u (qc_u (qc_u (qc_u I10 291 64 0) 318 q (nI s.1)) 319 q (I10 291 60)) 320 q (I10 291 61)) 321 q (I10 291 62)) 323 q (I10 291 63)) 291 40 (nI (q + 1))) := fun {p l} h => by
          unfold kP at h ⊢
          rw [off 317 (by decide) (by decide) (by decide) (by decide) (by decide) (by decide), off 315 (by decide) (by decide) (by decide) (by decide) (by decide) (by decide), off 316 (by decide) (by decide) (by decide) (by decide) (by decide) (by decide)]
          exact h
        have hre : ∀ i v, s.2.2.2[i]? = some v → D9 305 (100 * q + i) = v := by
          obtain ⟨J1, j1, ⟨o, j0, j2⟩, j3⟩ := h2
          exact j2.2.2.1.2.2
        refine ⟨_, _, _, _, rfl, ⟨nF_u (nF_u (nF_u (nF_u (nF_u (nF_u (nF_u (nF_tr n1 (nF_tr f1 (nF_k g1))) _ (Or.inl ⟨rfl, rfl⟩)) _ (Or.inr ⟨by decide, by decide, rfl⟩)) _ (Or.inr ⟨by decide, by decide, rfl⟩)) _ (Or.inr ⟨by decide, by decide, rfl⟩)) _ (Or.inr ⟨by decide, by decide, rfl⟩)) _ (Or.inr ⟨by decide, by decide, rfl⟩)) _ (Or.inl ⟨rfl, rfl⟩), f2, f3⟩, ?_, fun e u => ?_, fun s' u v => ?_, fun s' u v => ?_⟩
        · have := (kF_i g1 (k := 7) (by decide)).trans ((f4 7 (by omega)).trans v7)
          rw [← this]
          simp [qc_u]
        · rw [hr] at u; cases u
        · rw [hr] at u; cases u; exact absurd v z
        · rw [hr] at u; cases u
          refine ⟨rfl, ?_, qc_u_at _ _ _ _, kp p0, kp p1, kp p2, ?_, ?_, ?_, ?_, ?_, hre⟩
          · simp [qc_u]
          · rw [off 322 (by decide) (by decide) (by decide) (by decide) (by decide) (by decide)]; exact p3
          · simp [qc_u]
          · refine ⟨hx.2.2.2.1.1, ?_⟩
            rw [← hx.2.2.2.1.2, ← kF_i g1 (k := 60) (by decide)]
            simp [qc_u]
          · have e61 : (qc_u (qc_u (qc_u (qc_u (qc_u (qc_u (qc_u I10 291 64 0) 318 q (nI s.1)) 319 q (I10 291 60)) 320 q (I10 291 61)) 321 q (I10 291 62)) 323 q (I10 291 63)) 291 40 (nI (q + 1))) 320 q = I9 291 61 := by
              rw [← kF_i g1 (k := 61) (by decide)]
              simp [qc_u]
            rw [e61]
            exact hx.2.2.2.2.1
          · refine ⟨hx.2.2.2.2.2.1.1, ?_⟩
            rw [← hx.2.2.2.2.2.1.2, ← kF_i g1 (k := 62) (by decide)]
            simp [qc_u]
end
