/-! the reference makes a query's code: the second part, and all -/
/-- what a query that was read is like -/
def q_ok (ln : Nat → Nat) (nr sort : Nat) (x : qX) : Prop :=
  (∀ d, x.1 = some d → qs_D nr d ∧ d.1 = 0) ∧ (∀ d, x.2.1 = some d → qs_D nr d) ∧ (∀ d, x.2.2.1 = some d → qs_D nr d ∧ (d.1 = 1 ∨ d.1 = 2)) ∧
  ((sort = 0 ∧ x.1 ≠ none ∧ x.2.2.1 = none ∧ x.2.2.2.2.2.1 = 5 ∧ x.2.2.2.2.2.2 = none ∧ ((x.2.1 = none ∧ x.2.2.2.1 = 0) ∨ ((∃ d, x.2.1 = some d ∧ d.1 ≠ 0) ∧ (x.2.2.2.1 = 1 ∨ x.2.2.2.1 = 2)))) ∨
   (sort = 1 ∧ x.2.2.2.1 = 0 ∧ x.2.2.2.2.1 = none ∧ x.2.2.2.2.2.2 = none ∧ ((x.2.1 = none ∧ x.2.2.2.2.2.1 = 0) ∨ ((∃ d, x.2.1 = some d ∧ d.1 ≠ 0) ∧ 1 ≤ x.2.2.2.2.2.1 ∧ x.2.2.2.2.2.1 ≤ 4))) ∨
   (sort = 2 ∧ x.2.2.1 = none ∧ x.2.2.2.1 = 0 ∧ x.2.2.2.2.1 = none ∧ x.2.2.2.2.2.1 = 5 ∧ ∃ d c, x.2.1 = some d ∧ x.2.2.2.2.2.2 = some c ∧ c < 10 ∧ ln c < 8 ∧ (d.1 = 0 ↔ ln c = 0)))
/-- the kind of what is folded, ordered by -/
def q_vk (sort : Nat) (x : qX) (u : Int32) : Prop := match x.2.1 with
  | none => u = 2
  | some d => sort = 2 ∨ u = nI (if sort = 0 then 4 else q_want x.2.2.2.2.2.1 d.1)
section
variable {w : qcW} {I I0 : qTI} {L : qTL} {D : qTD} {R : qTR} {ln : Nat → Nat} {len q p nr : Nat} {l : List (Nat × Nat)} {A : Prop} {ds : List qDen} {x : qX}
theorem want_le {h k : Nat} (hk : k ≤ 4) : q_want h k ≤ 4 := by
  unfold q_want
  repeat' split
  all_goals omega
theorem k_65 (hI : kI ln len q x ds I0) {sort : Nat} (hq : q_ok ln nr sort x) (h : kF q I0 I) (hA : (A → I 291 51 = 0) ∧ (¬ A → I 291 51 = 1)) {nd : Nat} (hnd : nd ≤ 400) {l0 : List (Nat × Nat)} (hP : A → kP q 0 l0 I) (h1 : I 317 (3 * q + 1) = nI 0) (h2 : I 317 (3 * q + 2) = nI 0) : kO L D R len q I0 (((A ∧ (q_c1 ln sort x).length ≤ 200) ∧ (q_c0 x.2.2.1).length ≤ 200) ∧ max (max nd (q_n1 sort x)) (q_n0 x.2.2.1) ≤ 24) (fun I' => kP q 0 l0 I' ∧ kP q 1 (q_c1 ln sort x) I' ∧ kP q 2 (q_c0 x.2.2.1) I' ∧ q_vk sort x (I' 322 q)) (fX12_makes_b65 w I L D R (nI sort) (nI nd)) := by
  obtain ⟨s1, s2, s3, s4⟩ := k_part (p := 1) hI h (by decide) h1 hA
  have s1 : lS q 1 (qc_u I 291 50 1) := s1
  have s2 : ∀ y d, ds[y]? = some d → nN (qc_u I 291 50 1) ds y d := s2
  have s3 : lT q 1 (qc_u I 291 50 1) A [] (qc_u I 291 50 1) := s3
  have s4 : kF q I0 (qc_u I 291 50 1) := s4
  have hq12 := hI.1.2.2.1
  have h58 : (qc_u I 291 50 1) 291 58 = I0 291 58 := kF_i s4 (by decide)
  have h40 : (qc_u I 291 50 1) 291 40 = nI q := (kF_i s4 (by decide)).trans hI.1.2.1
  have h62 : (qc_u I 291 50 1) 291 62 = I0 291 62 := kF_i s4 (by decide)
  have hPu : A → kP q 0 l0 (qc_u I 291 50 1) := fun z => by
    have a := hP z
    unfold kP at a ⊢
    rw [qc_u_off _ _ (show (317 : Nat) ≠ 291 by decide), qc_u_off _ _ (show (315 : Nat) ≠ 291 by decide), qc_u_off _ _ (show (316 : Nat) ≠ 291 by decide)]
    exact a
  have h2u : (qc_u I 291 50 1) 317 (3 * q + 2) = nI 0 := by rw [qc_u_off _ _ (by decide)]; exact h2
  have h1u : (qc_u I 291 50 1) 317 (3 * q + 1) = nI 0 := by rw [qc_u_off _ _ (by decide)]; exact h1
  have hAu : (A → (qc_u I 291 50 1) 291 51 = 0) ∧ (¬ A → (qc_u I 291 50 1) 291 51 = 1) := by rw [qc_u_ne _ _ (Or.inr (by decide))]; exact hA
  have hds := hI.2.2.2.1
  unfold fX12_makes_b65
  generalize hI1 : qc_u I 291 50 1 = I1 at *
  rw [h58]
  cases hm : x.2.1 with
  | none =>
    have hmn := hI.2.1.2.1
    rw [hm] at hmn
    have hmn : I0 291 58 = -1 := hmn
    rw [if_pos hmn, h40, qi_inbN hq12 (by decide), qc_gdt, nI_clamp (by omega)]
    have e1 : q_c1 ln sort x = [] := by unfold q_c1; rw [hm]
    have e2 : q_n1 sort x = 0 := by unfold q_n1; rw [hm]
    have k := k_257 (w := w) (L := L) (D := D) (R := R) (A := A ∧ ([] : List (Nat × Nat)).length ≤ 200) (l0 := l0) (l1 := []) (nd := nd) (v := fun u => u = 2) hI (kF_u (a := 322) (k := q) s4 2 (by omega)) (by rw [qc_u_off _ _ (by decide)]; exact ⟨fun z => hAu.1 z.1, fun z => hAu.2 (fun u => z ⟨u, Nat.zero_le _⟩)⟩) (by omega) (fun z => by
      have a := hPu z.1
      unfold kP at a ⊢
      rw [qc_u_off _ _ (show (317 : Nat) ≠ 322 by decide), qc_u_off _ _ (show (315 : Nat) ≠ 322 by decide), qc_u_off _ _ (show (316 : Nat) ≠ 322 by decide)]
      exact ⟨a, h1u, Nat.zero_le _, fun i e he => (by cases he)⟩) (by rw [qc_u_off _ _ (by decide)]; exact h2u) (qc_u_at _ _ _ _)
    have ev : q_vk sort x = fun u => u = 2 := by unfold q_vk; rw [hm]
    rw [e1, e2, ev, Nat.max_eq_left (Nat.zero_le nd)]
    exact k
  | some d =>
    have hmn := hI.2.1.2.1
    rw [hm] at hmn
    obtain ⟨y, y1, y2⟩ := hmn
    have hy := (List.getElem?_eq_some_iff.mp y2).1
    obtain ⟨⟨b1, b2, b3, b4, b5, b6⟩, -⟩ := hI.2.2.1 y d y2
    rw [y1, if_neg (qi_nI_m1 (by omega)), qi_inbN (by omega) (by decide), qc_gdt, nI_clamp (show y < 2 ^ 31 by omega), kF_n s4 (by decide), b1]
    have el : ([] : List (Nat × Nat)) ++ qs_sh ([] : List (Nat × Nat)).length d.2.2.2 = d.2.2.2 := by
      rw [List.nil_append]; exact qs_sh_0 _
    -- find, fold
    have go : ∀ kk : Nat, sort < 2 → kk ≤ 4 → kk = (if sort = 0 then 4 else q_want x.2.2.2.2.2.1 d.1) → kO L D R len q I0 (((A ∧ (q_c1 ln sort x).length ≤ 200) ∧ (q_c0 x.2.2.1).length ≤ 200) ∧ max (max nd (q_n1 sort x)) (q_n0 x.2.2.1) ≤ 24) (fun I' => kP q 0 l0 I' ∧ kP q 1 (q_c1 ln sort x) I' ∧ kP q 2 (q_c0 x.2.2.1) I' ∧ q_vk sort x (I' 322 q)) (fX12_makes_b191 w I1 L D R (nI sort) (nI nd) (nI d.1) (nI kk)) := fun kk hs hk4 hkk => by
      have ec : q_c1 ln sort x = d.2.2.2 ++ qs_cv d.1 kk := by unfold q_c1; rw [hm, hkk]; simp only; rw [if_neg (by omega)]
      obtain ⟨I5, e1, e2⟩ := lT_all (w := w) (L := L) (D := D) (R := R) s1 s2 hds s3 y2
      rw [el] at e2
      obtain ⟨I6, f1, f2⟩ := lT_be (w := w) (L := L) (D := D) (R := R) s1 e2 b3 hk4
      have g6 := kF_l (by decide) s4 (lT_e f2).1
      unfold fX12_makes_b191
      rw [h58, y1, e1, qc_bds, f1, qc_bds, kF_i g6 (by decide), hI.1.2.1, qi_inbN hq12 (by decide), qc_gdt, nI_clamp (show q < 2 ^ 31 by omega), ec]
      exact k_219 hI (by omega) hm s4 hPu h2u f2 hnd (Or.inr ⟨nI kk, rfl⟩) (by
        unfold q_vk
        rw [hm, qc_u_at, hkk]
        exact Or.inr rfl)
    rcases hq.2.2.2 with ⟨r1, r2, r3, r4, r5, r6⟩ | ⟨r1, r2, r3, r4, r5⟩ | ⟨r1, r2, r3, r4, r5, d', c, r6, r7, r8, r9, r10⟩
    · subst r1
      rw [if_neg (show ¬ nI 0 = 2 by decide), if_pos (show nI 0 = 0 from rfl)]
      exact go 4 (by decide) (by decide) rfl
    · subst r1
      rw [if_neg (show ¬ nI 1 = 2 by decide), if_neg (show ¬ nI 1 = 0 by decide)]
      obtain ⟨-, t1, t2⟩ := r5.resolve_left (fun u => by rw [hm] at u; exact absurd u.1 (by simp))
      have hh : I1 291 62 = nI x.2.2.2.2.2.1 := by
        rw [h62, hI.2.1.2.2.2.2.2.1.2, if_neg (by omega)]
      have e4 : nI x.2.2.2.2.2.1 = 4 ↔ x.2.2.2.2.2.1 = 4 := qi_nI_inj' (j := 4) (by omega) (by decide)
      have e1 : nI x.2.2.2.2.2.1 = 1 ↔ x.2.2.2.2.2.1 = 1 := qi_nI_inj' (j := 1) (by omega) (by decide)
      rw [hh]
      by_cases z4 : x.2.2.2.2.2.1 = 4
      · rw [if_pos (e4.mpr z4)]
        exact go 4 (by decide) (by decide) (by rw [if_neg (by decide), z4]; rfl)
      · rw [if_neg (fun u => z4 (e4.mp u))]
        by_cases z1 : x.2.2.2.2.2.1 = 1
        · rw [if_pos (e1.mpr z1), mq_wh b3, qc_bds]
          have hne : d.1 ≠ 0 := by
            obtain ⟨⟨d2, u1, u2⟩, -⟩ := r5.resolve_left (fun u => by rw [hm] at u; exact absurd u.1 (by simp))
            rw [hm] at u1
            cases u1
            exact u2
          by_cases z2 : d.1 ≤ 2
          · rw [show qs_wh d.1 = true by rcases (show d.1 = 1 ∨ d.1 = 2 by omega) with u | u <;> (rw [u]; rfl), if_pos rfl]
            exact go 2 (by decide) (by decide) (by unfold q_want; rw [if_neg (by decide), if_pos z1, if_pos z2])
          · rw [show qs_wh d.1 = false by rcases (show d.1 = 3 ∨ d.1 = 4 by omega) with u | u <;> (rw [u]; rfl), if_neg (by decide)]
            exact go 4 (by decide) (by decide) (by unfold q_want; rw [if_neg (by decide), if_pos z1, if_neg z2])
        · rw [if_neg (fun u => z1 (e1.mp u))]
          exact go d.1 (by decide) b3 (by unfold q_want; rw [if_neg (by decide), if_neg z1, if_neg z4])
    · subst r1
      rw [hm] at r6
      cases r6
      rw [if_pos (show nI 2 = 2 from rfl)]
      have hg : x.2.2.2.2.2.2.getD 0 = c := by rw [r7]; rfl
      have h63 : I0 291 63 = nI c := by
        have := hI.2.1.2.2.2.2.2.2
        rw [r7] at this
        exact this.1
      obtain ⟨i, i1, i2, i3, i4⟩ := (hI.2.2.2.2 c r8).resolve_left (fun u => by omega)
      obtain ⟨I5, e1, e2⟩ := lT_emit (w := w) (L := L) (D := D) (R := R) s1 s3 3 0
      have e1 : fX12_emit w I1 L D R 3 0 = some ((), I5, L, D, R) := e1
      have g5 := kF_l (by decide) s4 (lT_e e2).1
      obtain ⟨I6, f1, f2⟩ := lT_all (w := w) (L := L) (D := D) (R := R) s1 s2 hds e2 y2
      have g6 := kF_l (by decide) s4 (lT_e f2).1
      have ec : q_c1 ln 2 x = ([(3, 0)] ++ qs_sh 1 d.2.2.2) ++ qs_cv d.1 (qw_kd (ln c)) ++ q_cs (ln c) c := by unfold q_c1; rw [hm, hg]; rfl
      have f2 : lT q 1 I1 A ([(3, 0)] ++ qs_sh 1 d.2.2.2) I6 := f2
      have lz0 : nI (ln c) ≤ 0 ↔ ln c ≤ 0 := qi_le (b := 0) (by omega) (by decide)
      rw [e1, qc_bds, kF_i g5 (by decide), y1, f1, qc_bds, kF_i g6 (by decide), h63, qi_inbN r8 (by decide), qc_gdt, nI_clamp (show c < 2 ^ 31 by omega), kF_n g6 (by decide), i2, qi_inbN i1 (by decide), qc_gdt, nI_clamp (show i < 2 ^ 31 by omega), kF_n g6 (by decide), i3]
      -- the end: the store
      have fin : ∀ {l1 : List (Nat × Nat)} {I7 : qTI}, lT q 1 I1 A l1 I7 → q_c1 ln 2 x = l1 ++ [(20 + ln c, c)] → kO L D R len q I0 (((A ∧ (q_c1 ln 2 x).length ≤ 200) ∧ (q_c0 x.2.2.1).length ≤ 200) ∧ max (max nd (q_n1 2 x)) (q_n0 x.2.2.1) ≤ 24) (fun I' => kP q 0 l0 I' ∧ kP q 1 (q_c1 ln 2 x) I' ∧ kP q 2 (q_c0 x.2.2.1) I' ∧ q_vk 2 x (I' 322 q)) (fX12_makes_b135 w I7 L D R (nI 2) (nI nd) (nI (ln c))) := fun {l1 I7} hT he => by
        have g7 := kF_l (by decide) s4 (lT_e hT).1
        obtain ⟨I8, n1, n2⟩ := lT_emit (w := w) (L := L) (D := D) (R := R) s1 hT (20 + ln c) c
        unfold fX12_makes_b135
        rw [kF_i g7 (by decide), h63, show (20 : Int32) + nI (ln c) = nI (20 + ln c) from nI_add 20 _, n1, qc_bds, he]
        exact k_219 hI (by decide) hm s4 hPu h2u n2 hnd (Or.inl rfl) (by unfold q_vk; rw [hm]; exact Or.inl rfl)
      by_cases z : ln c = 0
      · rw [if_pos (lz0.mpr (by omega))]
        refine fin f2 ?_
        rw [ec, z, r10.mpr z]
        show ([(3, 0)] ++ qs_sh 1 d.2.2.2) ++ [] ++ ([] ++ [(20 + 0, c)]) = _
        rw [List.append_nil, List.nil_append]
      · rw [if_neg (fun u => by have := lz0.mp u; omega)]
        obtain ⟨I7, m1, m2⟩ := lT_casts (w := w) (L := L) (D := D) (R := R) s1 f2 b3 (v := ln c) (by omega)
        rw [m1, qc_bds]
        refine fin m2 ?_
        have ek : qw_kd (ln c) = qs_ck (ln c) := by
          unfold qw_kd qs_ck
          rw [if_neg z]
        have es : (if 1 ≤ ln c ∧ ln c ≤ 3 then [(1650 + ln c, 0)] else ([] : List (Nat × Nat))) = if ln c < 4 then [(1650 + ln c, 0)] else [] := by
          by_cases u : ln c < 4
          · rw [if_pos u, if_pos ⟨by omega, by omega⟩]
          · rw [if_neg u, if_neg (by omega)]
        rw [ec, ek]
        unfold q_cs
        rw [es, ← List.append_assoc]
/-- all parts -/
theorem k_makes (hI : kI ln len q x ds I) {sort : Nat} (hq : q_ok ln nr sort x) : kO L D R len q I (¬ q_big ln sort x) (fun I' => kP q 0 (q_c0 x.1) I' ∧ kP q 1 (q_c1 ln sort x) I' ∧ kP q 2 (q_c0 x.2.2.1) I' ∧ q_vk sort x (I' 322 q)) (fX12_makes w I L D R (nI sort)) := by
  have hq12 := hI.1.2.2.1
  have hds := hI.2.2.2.1
  obtain ⟨I3, hI3⟩ : ∃ I3, I3 = qc_u (qc_u (qc_u (qc_u I 291 51 0) 317 (3 * q + 0) 0) 317 (3 * q + 1) 0) 317 (3 * q + 2) 0 := ⟨_, rfl⟩
  have k3 : kF q I I3 := by
    rw [hI3]
    exact kF_u (kF_u (kF_u (kF_u (fun _ _ _ _ _ _ _ => rfl) _ (by omega)) _ (by omega)) _ (by omega)) _ (by omega)
  have z0 : I3 317 (3 * q + 0) = nI 0 := by rw [hI3, qc_u_ne _ _ (Or.inr (by omega)), qc_u_ne _ _ (Or.inr (by omega)), qc_u_at]; rfl
  have z1 : I3 317 (3 * q + 1) = nI 0 := by rw [hI3, qc_u_ne _ _ (Or.inr (by omega)), qc_u_at]; rfl
  have z2 : I3 317 (3 * q + 2) = nI 0 := by rw [hI3, qc_u_at]; rfl
  have z51 : I3 291 51 = 0 := by rw [hI3, qc_u_ne _ _ (Or.inl (by decide)), qc_u_ne _ _ (Or.inl (by decide)), qc_u_ne _ _ (Or.inl (by decide)), qc_u_at]
  have e7 : fX12_makes w I L D R (nI sort) = (if (I3 291 57) = (-1 : Int32) then (fX12_makes_b65 w I3 L D R (nI sort) (0 : Int32)) else (qc_bd (fX12_layAll w (qc_u I3 291 50 (0 : Int32)) L D R ((qc_u I3 291 50 (0 : Int32)) 291 57)) fun r32 I32 L32 D32 R32 => qc_gd (qc_inb (I32 291 57) 420) <| fX12_makes_b65 w I32 L32 D32 R32 (nI sort) (I32 304 (Int32.toNatClampNeg (I32 291 57))))) := by
    have h40 : I 291 40 = nI q := hI.1.2.1
    have r : ∀ (n : Nat) (I' : qTI) (k : Nat), k < 3 → I' 291 40 = nI q → fX12_makes_l7 w (n + 1) (I', L, D, R, nI sort, nI k) = fX12_makes_l7 w n (qc_u I' 317 (3 * q + k) 0, L, D, R, nI sort, nI (k + 1)) := fun n I' k hk hk40 => by
      rw [fX12_makes_l7_s]
      unfold fX12_makes_b7
      rw [if_neg (fun u => by have := (qi_le (a := 3) (by decide) (by omega)).mp u; omega), hk40, l_i3, qi_inbN (by omega) (by decide), qc_gdt, nI_clamp (by omega), show nI k + 1 = nI (k + 1) from qi_s1 k]
    have e0 : fX12_makes w I L D R (nI sort) = fX12_makes_l7 w (4092 + 1 + 1 + 1 + 1) (qc_u I 291 51 0, L, D, R, nI sort, nI 0) := rfl
    rw [e0, r _ _ 0 (by decide) (by rw [qc_u_ne _ _ (Or.inr (by decide))]; exact h40), r _ _ 1 (by decide) (by rw [qc_u_ne _ _ (Or.inl (by decide)), qc_u_ne _ _ (Or.inr (by decide))]; exact h40), r _ _ 2 (by decide) (by rw [qc_u_ne _ _ (Or.inl (by decide)), qc_u_ne _ _ (Or.inl (by decide)), qc_u_ne _ _ (Or.inr (by decide))]; exact h40), ← hI3, fX12_makes_l7_s]
    unfold fX12_makes_b7
    rw [if_pos (show (3 : Int32) ≤ nI 3 by decide)]
  have conv : ∀ {A : Prop} {nd : Nat}, (A ↔ (q_c0 x.1).length ≤ 200) → nd = q_n0 x.1 → ((((A ∧ (q_c1 ln sort x).length ≤ 200) ∧ (q_c0 x.2.2.1).length ≤ 200) ∧ max (max nd (q_n1 sort x)) (q_n0 x.2.2.1) ≤ 24) ↔ ¬ q_big ln sort x) := fun {A nd} hA hn => by
    unfold q_big
    rw [hA, hn]
    omega
  have fin : ∀ {A : Prop} {nd : Nat} {out : qcO Unit}, (A ↔ (q_c0 x.1).length ≤ 200) → nd = q_n0 x.1 → kO L D R len q I (((A ∧ (q_c1 ln sort x).length ≤ 200) ∧ (q_c0 x.2.2.1).length ≤ 200) ∧ max (max nd (q_n1 sort x)) (q_n0 x.2.2.1) ≤ 24) (fun I' => kP q 0 (q_c0 x.1) I' ∧ kP q 1 (q_c1 ln sort x) I' ∧ kP q 2 (q_c0 x.2.2.1) I' ∧ q_vk sort x (I' 322 q)) out → kO L D R len q I (¬ q_big ln sort x) (fun I' => kP q 0 (q_c0 x.1) I' ∧ kP q 1 (q_c1 ln sort x) I' ∧ kP q 2 (q_c0 x.2.2.1) I' ∧ q_vk sort x (I' 322 q)) out := fun {A nd out} hA hn hk => by
    obtain ⟨I', a1, a2, a3⟩ := hk
    exact ⟨I', a1, fun z => a2 ((conv hA hn).mpr z), fun z => a3 (fun u => z ((conv hA hn).mp u))⟩
  have hxF := hI.2.1
  have h57 : I3 291 57 = I 291 57 := kF_i k3 (by decide)
  rw [e7, h57]
  cases hw : x.1 with
  | none =>
    have h0 := hxF.1
    rw [hw] at h0 fin
    have h0 : I 291 57 = -1 := h0
    rw [if_pos h0]
    refine fin (A := True) (nd := 0) ⟨fun _ => Nat.zero_le _, fun _ => trivial⟩ rfl ?_
    exact k_65 (nd := 0) hI hq k3 ⟨fun _ => z51, fun u => absurd trivial u⟩ (by decide) (fun _ => ⟨z0, Nat.zero_le _, fun i e he => (by cases he)⟩) z1 z2
  | some d =>
    have h0 := hxF.1
    rw [hw] at h0 fin
    obtain ⟨y, y1, y2⟩ := h0
    have hy := (List.getElem?_eq_some_iff.mp y2).1
    obtain ⟨⟨b1, b2, b3, b4, b5, b6⟩, -⟩ := hI.2.2.1 y d y2
    obtain ⟨s1, s2, s3, s4⟩ := k_part (p := 0) (A := True) hI k3 (by decide) z0 ⟨fun _ => z51, fun u => absurd trivial u⟩
    have s1 : lS q 0 (qc_u I3 291 50 0) := s1
    have s2 : ∀ y d, ds[y]? = some d → nN (qc_u I3 291 50 0) ds y d := s2
    have s3 : lT q 0 (qc_u I3 291 50 0) True [] (qc_u I3 291 50 0) := s3
    have s4 : kF q I (qc_u I3 291 50 0) := s4
    obtain ⟨I5, e1, e2⟩ := lT_all (w := w) (L := L) (D := D) (R := R) s1 s2 hds s3 y2
    obtain ⟨g1, g2, g3⟩ := lT_e e2
    have el : ([] : List (Nat × Nat)) ++ qs_sh ([] : List (Nat × Nat)).length d.2.2.2 = d.2.2.2 := by
      rw [List.nil_append]; exact qs_sh_0 _
    rw [el] at g2 g3
    have g4 := kF_l (by decide) s4 g1
    rw [y1, if_neg (qi_nI_m1 (by omega)), kF_i s4 (by decide), y1, e1, qc_bds, kF_i g4 (by decide), y1, qi_inbN (by omega) (by decide), qc_gdt, nI_clamp (show y < 2 ^ 31 by omega), kF_n g4 (by decide), b2]
    refine fin (A := True ∧ d.2.2.2.length ≤ 200) (nd := d.2.1) ⟨fun u => u.2, fun u => ⟨trivial, u⟩⟩ rfl ?_
    exact k_65 (l0 := d.2.2.2) hI hq g4 ⟨fun z => (g2 z).1, g3⟩ (by omega) (fun z => (g2 z).2) (by rw [g1 317 (3 * q + 1) (by omega) (by omega) (by omega) (by omega), qc_u_off _ _ (by decide)]; exact z1) (by rw [g1 317 (3 * q + 2) (by omega) (by omega) (by omega) (by omega), qc_u_off _ _ (by decide)]; exact z2)
end
