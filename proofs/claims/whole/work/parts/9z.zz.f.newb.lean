/-! a new query, of both -/
section
variable {w : qcW} {I : qTI} {D : qTD} {R : qTR} {N n nr sort s0 s1 s2 : Nat} {x : qX} {ln : Nat → Nat} {rs : List UInt64}
theorem gI_eq {i : Nat} {e : Nat × Nat} {J : qTI} {a a2 o o2 : Nat} (h : J a i = nI e.1 ∧ J a2 i = nI e.2) (g : J 315 o = nI e.1 ∧ J 316 o = nI e.2) : J a i = J 315 o ∧ J a2 i = J 316 o := ⟨h.1.trans g.1.symm, h.2.trans g.2.symm⟩
theorem qb_new (hst : sort < 3) (hok : q_ok ln nr sort x) (hns : q_nn x) (hbig : ¬ q_big ln sort x) (hnr : nr ≤ 100) (hfst : ∀ v, x.2.2.2.2.1 = some v → v < 2147483648)
    (hl0 : s0 = (q_c0 x.1).length) (hl1 : s1 = (q_c1 ln sort x).length) (hl2 : s2 = (q_c0 x.2.2.1).length) (hrs : rs.length = nr) (hrn : ∀ v ∈ rs, qc_n64 v = true)
    (h290 : R 290 n = N) (h338 : 338 ≤ N) (wN : qc_io w N 6 = true) (w1 : qc_ia w (N + 1) 100 = true) (l1 : w.2.2 (N + 1) = 4) (w2 : qc_ia w (N + 2) 100 = true) (l2 : w.2.2 (N + 2) = s0 + s1 + s2) (w3 : qc_ia w (N + 3) 100 = true) (l3 : w.2.2 (N + 3) = s0 + s1 + s2) (w4 : qc_ia w (N + 4) 102 = true) (l4 : w.2.2 (N + 4) = nr)
    (r0 : R N 0 = N + 2) (r1 : R N 1 = N + 3) (r2 : R N 2 = N + 1) (r3 : R N 3 = N + 4) (r4 : R N 4 = q_fm sort) (r5 : R N 5 = q_hm x.2.2.2.2.2.1)
    (i6 : I N 6 = nI (q_kd sort x)) (i7 : I N 7 = q_tg x.2.2.2.2.2.2) (i8 : I N 8 = q_or x.2.2.2.1) (i9 : I N 9 = q_ft x.2.2.2.2.1)
    (t0 : I (N + 1) 0 = nI 0) (t1 : I (N + 1) 1 = nI s0) (t2 : I (N + 1) 2 = nI (s0 + s1)) (t3 : I (N + 1) 3 = nI (s0 + s1 + s2))
    (a0 : ∀ i e, (q_c0 x.1)[i]? = some e → I (N + 2) i = nI e.1 ∧ I (N + 3) i = nI e.2) (a1 : ∀ i e, (q_c1 ln sort x)[i]? = some e → I (N + 2) (s0 + i) = nI e.1 ∧ I (N + 3) (s0 + i) = nI e.2) (a2 : ∀ i e, (q_c0 x.2.2.1)[i]? = some e → I (N + 2) (s0 + s1 + i) = nI e.1 ∧ I (N + 3) (s0 + s1 + i) = nI e.2)
    (hD : ∀ i v, rs[i]? = some v → D (N + 4) i = v) (hD2 : ∀ i v, rs[i]? = some v → D 305 (100 * n + i) = v)
    (k0 : kP n 0 (q_c0 x.1) I) (k1 : kP n 1 (q_c1 ln sort x) I) (k2 : kP n 2 (q_c0 x.2.2.1) I) (hvk : q_vk sort x (I 322 n)) (h318 : I 318 n = nI sort)
    (h319 : x.2.2.2.1 ≤ 2 ∧ I 319 n = if x.2.2.2.1 = 0 then -1 else nI (x.2.2.2.1 - 1)) (h320 : match x.2.2.2.2.1 with | none => I 320 n = -1 | some v => I 320 n = nI v ∧ v < 2147483648) (h321 : x.2.2.2.2.2.1 ≤ 5 ∧ I 321 n = if x.2.2.2.2.2.1 = 5 then -1 else nI x.2.2.2.2.2.1) : qq_B w I D R n := by
  have b255 : ∀ k, N + k ≠ 255 := fun k => by omega
  have c0 : s0 ≤ 200 := by rw [hl0]; exact k0.2.1
  have c1 : s1 ≤ 200 := by rw [hl1]; exact k1.2.1
  have c2 : s2 ≤ 200 := by rw [hl2]; exact k2.2.1
  unfold q_big at hbig
  have n0 : q_n0 x.1 ≤ 24 := by omega
  have n1 : q_n1 sort x ≤ 24 := by omega
  have n2 : q_n0 x.2.2.1 ≤ 24 := by omega
  have o0 := kP_o (b := 600 * n) k0 (by omega)
  have o1 := kP_o (b := 600 * n + 200) k1 (by omega)
  have o2 := kP_o (b := 600 * n + 400) k2 (by omega)
  have m0 : ∀ {l : List (Nat × Nat)} {i : Nat}, i < l.length → ∃ e, l[i]? = some e := fun {l i} h => ⟨l[i], List.getElem?_eq_getElem h⟩
  refine ⟨s0, s1, s2, nr, ?_, ?_, ?_, ?_, ?_⟩
  · rw [h290, r0, r1, r2, r3, r5]
    refine ⟨wN, h338, w2, by omega, l2, w3, by omega, l3, w1, by omega, l1, w4, by omega, l4, ?_⟩
    unfold q_hm
    repeat' split
    all_goals rfl
  · rw [h290, r2]
    exact ⟨c0, c1, c2, hnr, t0, t1, t2, t3, by rw [hl0]; exact k0.1, by rw [hl1]; exact k1.1, by rw [hl2]; exact k2.1⟩
  · rw [h290, r0, r1, r3]
    refine ⟨fun i hi => ?_, fun i hi => ?_, fun i hi => ?_, fun i hi => ?_⟩
    · obtain ⟨e, he⟩ := m0 (l := q_c0 x.1) (i := i) (by omega)
      obtain ⟨g1, g2⟩ := a0 i e he
      obtain ⟨f1, f2⟩ := o0 i e he
      exact ⟨g1.trans f1.symm, g2.trans f2.symm⟩
    · obtain ⟨e, he⟩ := m0 (l := q_c1 ln sort x) (i := i) (by omega)
      obtain ⟨g1, g2⟩ := a1 i e he
      obtain ⟨f1, f2⟩ := o1 i e he
      exact ⟨g1.trans f1.symm, g2.trans f2.symm⟩
    · obtain ⟨e, he⟩ := m0 (l := q_c0 x.2.2.1) (i := i) (by omega)
      obtain ⟨g1, g2⟩ := a2 i e he
      obtain ⟨f1, f2⟩ := o2 i e he
      exact ⟨g1.trans f1.symm, g2.trans f2.symm⟩
    · have hi2 : i < rs.length := by omega
      have he : rs[i]? = some rs[i] := List.getElem?_eq_getElem hi2
      rw [hD i _ he, hD2 i _ he]
      exact ⟨rfl, hrn _ (List.getElem_mem hi2)⟩
  · refine ⟨?_, ?_, ?_, ?_⟩
    · by_cases z : x.1 = none
      · left; rw [hl0, z]; rfl
      · right
        rw [hl0]
        exact wf_ty (q_c0_D hok.1 z) (by omega) n0 o0
    · have z : ∀ (i : Nat) (e : Nat × Nat), (q_c0 x.1)[i]? = some e → e.1 ≤ 1810 := fun i e he => by
        by_cases z : x.1 = none
        · rw [z] at he; cases he
        · exact ty_op (q_c0_D hok.1 z) he
      exact ns_qw (c0_ns hns.1) (by omega) z o0
    · by_cases z : x.2.2.1 = none
      · left; rw [hl2, z]; rfl
      · right
        obtain ⟨d, hd⟩ := Option.ne_none_iff_exists'.mp z
        have hk := (hok.2.2.1 d hd).2
        rw [hl2]
        rcases hk with hk | hk
        · left
          exact wf_ty (q_c0_D (k := 1) (fun d' hd' => by rw [hd] at hd'; cases hd'; exact ⟨(hok.2.2.1 d hd).1, hk⟩) z) (by omega) n2 o2
        · right
          exact wf_ty (q_c0_D (k := 2) (fun d' hd' => by rw [hd] at hd'; cases hd'; exact ⟨(hok.2.2.1 d hd).1, hk⟩) z) (by omega) n2 o2
    · have z : ∀ (i : Nat) (e : Nat × Nat), (q_c0 x.2.2.1)[i]? = some e → e.1 ≤ 1810 := fun i e he => by
        by_cases z : x.2.2.1 = none
        · rw [z] at he; cases he
        · obtain ⟨d, hd⟩ := Option.ne_none_iff_exists'.mp z
          exact ty_op (q_c0_D (k := d.1) (fun d' hd' => by rw [hd] at hd'; cases hd'; exact ⟨(hok.2.2.1 d hd).1, rfl⟩) z) he
      exact ns_qw (c0_ns hns.2.2) (by omega) z o2
  · rw [h290]
    rcases hok.2.2.2 with ⟨e1, e2, e3, e4, e5, e6⟩ | ⟨e1, e2, e3, e4, e5⟩ | ⟨e1, e2, e3, e4, e5, d, c, e6, e7, e8, e9, e10⟩
    · left
      subst e1
      have hs2 : s2 = 0 := by rw [hl2, e3]; rfl
      refine ⟨h318, r4, hs2, ?_, ?_, ?_⟩
      · rcases e6 with ⟨f1, f2⟩ | ⟨⟨d, f1, f2⟩, f3⟩
        · have : s1 = 0 := by rw [hl1]; unfold q_c1; rw [f1]; rfl
          intro i hi; omega
        · have hc : q_c1 ln 0 x = d.2.2.2 ++ qs_cv d.1 4 := by unfold q_c1; rw [f1]; rfl
          have ht := ty_cv (hok.2.1 d f1) f2 (t := 4) (by decide)
          rw [hc] at o1
          exact ns_qw (l := d.2.2.2 ++ qs_cv d.1 4) (ns_app (hns.2.1 d f1) (ns_cv _ _)) (by rw [hl1, hc]; exact Nat.le_refl _) (fun i e he => ty_op ht he) o1
      · rcases e6 with ⟨f1, f2⟩ | ⟨⟨d, f1, f2⟩, f3⟩
        · left
          refine ⟨by rw [hl1]; unfold q_c1; rw [f1]; rfl, ?_, ?_, ?_⟩
          · rw [i6]; unfold q_kd; rw [f1]; rfl
          · rw [h319.2, f2]; rfl
          · rw [i8, f2]; rfl
        · right
          have hc : q_c1 ln 0 x = d.2.2.2 ++ qs_cv d.1 4 := by unfold q_c1; rw [f1]; rfl
          have ht := ty_cv (hok.2.1 d f1) f2 (t := 4) (by decide)
          rw [hc] at o1
          have hn1 : q_n1 0 x = d.2.1 := by unfold q_n1; rw [f1]; rfl
          have hlen : s1 = (d.2.2.2 ++ qs_cv d.1 4).length := by rw [hl1, hc]
          refine ⟨?_, ?_, ?_, ?_⟩
          · rw [hlen]
            exact wf_ty ht (by omega) (by omega) o1
          · rw [hlen, List.length_append]
            have := (hok.2.1 d f1).2.2.2.1
            omega
          · rw [i6]; unfold q_kd; rw [f1]; rfl
          · rcases f3 with f3 | f3
            · left; rw [h319.2, i8, f3]; exact ⟨rfl, rfl⟩
            · right; rw [h319.2, i8, f3]; exact ⟨rfl, rfl⟩
      · cases hf : x.2.2.2.2.1 with
        | none =>
          left
          rw [hf] at h320
          exact ⟨h320, by rw [i9, hf]; rfl⟩
        | some v =>
          right
          rw [hf] at h320
          have h320 : I 320 n = nI v ∧ v < 2147483648 := h320
          refine ⟨by rw [i9, hf, h320.1]; rfl, ?_⟩
          rw [h320.1]
          exact (qi_le (a := 0) (by decide) (by omega)).mpr (Nat.zero_le _)
    · right; left
      subst e1
      refine ⟨h318, r4, by rw [i9, e3]; rfl, ?_, ?_, ?_, ?_⟩
      · rcases e5 with ⟨f1, f2⟩ | ⟨⟨d, f1, f2⟩, f3, f4⟩
        · have : s1 = 0 := by rw [hl1]; unfold q_c1; rw [f1]; rfl
          intro i hi; omega
        · have hc : q_c1 ln 1 x = d.2.2.2 ++ qs_cv d.1 (q_want x.2.2.2.2.2.1 d.1) := by unfold q_c1; rw [f1]; rfl
          have hd := hok.2.1 d f1
          have hw : 1 ≤ q_want x.2.2.2.2.2.1 d.1 ∧ q_want x.2.2.2.2.2.1 d.1 ≤ 4 := by
            have := hd.1
            unfold q_want
            repeat' split
            all_goals omega
          have ht := ty_cv hd f2 hw
          rw [hc] at o1
          exact ns_qw (l := d.2.2.2 ++ qs_cv d.1 (q_want x.2.2.2.2.2.1 d.1)) (ns_app (hns.2.1 d f1) (ns_cv _ _)) (by rw [hl1, hc]; exact Nat.le_refl _) (fun i e he => ty_op ht he) o1
      · rw [i6]
        unfold q_vk at hvk
        unfold q_kd
        rcases e5 with ⟨f1, f2⟩ | ⟨⟨d, f1, f2⟩, f3, f4⟩
        · rw [f1] at hvk ⊢
          exact hvk.symm
        · rw [f1] at hvk ⊢
          rcases hvk with u | u
          · cases u
          · exact u.symm
      · rw [r5, h321.2]
        unfold qq_how
        have h4 : x.2.2.2.2.2.1 ≤ 4 := by rcases e5 with ⟨f1, f2⟩ | ⟨f1, f3, f4⟩ <;> omega
        rcases (show x.2.2.2.2.2.1 = 0 ∨ x.2.2.2.2.2.1 = 1 ∨ x.2.2.2.2.2.1 = 2 ∨ x.2.2.2.2.2.1 = 3 ∨ x.2.2.2.2.2.1 = 4 by omega) with u | u | u | u | u <;> rw [u]
        · exact Or.inl ⟨rfl, rfl⟩
        · exact Or.inr (Or.inl ⟨rfl, rfl⟩)
        · exact Or.inr (Or.inr (Or.inl ⟨rfl, rfl⟩))
        · exact Or.inr (Or.inr (Or.inr (Or.inl ⟨rfl, rfl⟩)))
        · exact Or.inr (Or.inr (Or.inr (Or.inr ⟨rfl, rfl⟩)))
      · unfold q_vk at hvk
        rcases e5 with ⟨f1, f2⟩ | ⟨⟨d, f1, f2⟩, f3, f4⟩
        · rw [f1] at hvk
          have e321 : I 321 n = 0 := by rw [h321.2, f2]; rfl
          refine ⟨2, hvk, by decide, by decide, fun _ => rfl, fun _ => Or.inl rfl, fun u => ?_, Or.inl ⟨e321, by rw [hl1]; unfold q_c1; rw [f1]; rfl⟩⟩
          rw [e321] at u
          exact absurd u (by decide)
        · rw [f1] at hvk
          have hd := hok.2.1 d f1
          have hu : I 322 n = nI (q_want x.2.2.2.2.2.1 d.1) := by
            rcases hvk with u | u
            · cases u
            · exact u
          have e321 : I 321 n = nI x.2.2.2.2.2.1 := by rw [h321.2, if_neg (by omega)]
          have e3 : ∀ k : Nat, k < 10 → (I 321 n = nI k ↔ x.2.2.2.2.2.1 = k) := fun k hk => by rw [e321, qi_nI_inj' (by omega) (by omega)]
          have hc : q_c1 ln 1 x = d.2.2.2 ++ qs_cv d.1 (q_want x.2.2.2.2.2.1 d.1) := by unfold q_c1; rw [f1]; rfl
          have hw : 1 ≤ q_want x.2.2.2.2.2.1 d.1 ∧ q_want x.2.2.2.2.2.1 d.1 ≤ 4 := by
            have := hd.1
            unfold q_want
            repeat' split
            all_goals omega
          have ht := ty_cv hd f2 hw
          rw [hc] at o1
          have hn1 : q_n1 1 x = d.2.1 := by unfold q_n1; rw [f1]; rfl
          have hlen : s1 = (d.2.2.2 ++ qs_cv d.1 (q_want x.2.2.2.2.2.1 d.1)).length := by rw [hl1, hc]
          refine ⟨q_want x.2.2.2.2.2.1 d.1, hu, hw.1, hw.2, fun u => ?_, fun u => ?_, fun u => ?_, Or.inr ⟨fun u => ?_, ?_, ?_⟩⟩
          · have := (e3 0 (by decide)).mp u; omega
          · have := (e3 1 (by decide)).mp u
            rw [this]
            unfold q_want
            split
            · split
              · exact Or.inl rfl
              · exact Or.inr rfl
            · omega
          · have := (e3 4 (by decide)).mp u
            rw [this]
            rfl
          · have := (e3 0 (by decide)).mp u; omega
          · rw [hlen, List.length_append]
            have := hd.2.2.2.1
            omega
          · rw [hlen]
            exact wf_ty ht (by omega) (by omega) o1
    · right; right
      subst e1
      have hs2 : s2 = 0 := by rw [hl2, e2]; rfl
      have hd := hok.2.1 d e6
      have hg : x.2.2.2.2.2.2.getD 0 = c := by rw [e7]; rfl
      have hc : q_c1 ln 2 x = [(3, 0)] ++ qs_sh 1 d.2.2.2 ++ qs_cv d.1 (qw_kd (ln c)) ++ q_cs (ln c) c := by
        unfold q_c1
        rw [e6]
        dsimp only
        rw [if_pos rfl, hg]
      have ht := (ty_set hd e9 e8 e10).1
      have hn1 : q_n1 2 x = d.2.1 + 1 := by unfold q_n1; rw [e6]; rfl
      obtain ⟨A, hA, hA2⟩ : ∃ A, A ++ [(20 + ln c, c)] = [(3, 0)] ++ qs_sh 1 d.2.2.2 ++ qs_cv d.1 (qw_kd (ln c)) ++ q_cs (ln c) c ∧ q_ns A := by
        unfold q_cs
        split
        · exact ⟨[(3, 0)] ++ qs_sh 1 d.2.2.2 ++ qs_cv d.1 (qw_kd (ln c)) ++ [(1650 + ln c, 0)], by rw [List.append_assoc], ns_app (ns_app (ns_app (ns_1 (Or.inl (by decide))) (ns_sh (hns.2.1 d e6) _)) (ns_cv _ _)) (ns_1 (Or.inr (by omega)))⟩
        · exact ⟨[(3, 0)] ++ qs_sh 1 d.2.2.2 ++ qs_cv d.1 (qw_kd (ln c)), by rw [List.nil_append], ns_app (ns_app (ns_1 (Or.inl (by decide))) (ns_sh (hns.2.1 d e6) _)) (ns_cv _ _)⟩
      rw [hc] at o1
      have hlen : s1 = ([(3, 0)] ++ qs_sh 1 d.2.2.2 ++ qs_cv d.1 (qw_kd (ln c)) ++ q_cs (ln c) c).length := by rw [hl1, hc]
      have hlA : s1 = A.length + 1 := by rw [hlen, ← hA, List.length_append]; rfl
      refine ⟨h318, r4, hs2, by rw [i9, e4]; rfl, ?_, by rw [i8, e3]; rfl, by omega, ?_, ?_, ?_, ln c, e9, ?_⟩
      · rw [i6]; unfold q_kd; rw [e6]; rfl
      · rw [hlen]
        exact wf_ty ht (by omega) (by omega) o1
      · refine ns_qw (l := A) (ar := fun i => I 316 (600 * n + 200 + i)) hA2 (by omega) (fun i e he => ?_) (fun i e he => ?_)
        · exact ty_op ht (by rw [← hA, List.getElem?_append_left (by have := qs_ltl he; omega)]; exact he)
        · exact o1 i e (by rw [← hA, List.getElem?_append_left (by have := qs_ltl he; omega)]; exact he)
      · rw [i7, e7]
        exact qi_inbN e8 (by decide)
      · have he := o1 (s1 - 1) (20 + ln c, c) (by
          rw [← hA, show s1 - 1 = A.length by omega, List.getElem?_append_right (Nat.le_refl _), Nat.sub_self]
          rfl)
        refine ⟨he.1, ?_⟩
        rw [i7, e7]
        exact he.2
end
