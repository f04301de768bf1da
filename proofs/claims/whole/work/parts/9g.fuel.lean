/-! enough fuel -/
theorem qs_b_e {α β : Type} {r : qR α} {f : α → qR β} {e : Nat × Nat} (h : qs_b r f = .inl e) : r = .inl e ∨ ∃ x, r = .inr x ∧ f x = .inl e := by
  cases r with
  | inl z => cases h; exact Or.inl rfl
  | inr x => exact Or.inr ⟨x, rfl, h⟩
def qs_n9 {α : Type} (r : qR α) : Prop := ∀ j, r ≠ .inl (9, j)
theorem n9_b {α β : Type} {r : qR α} {f : α → qR β} (h : qs_n9 r) (g : ∀ x, r = .inr x → qs_n9 (f x)) : qs_n9 (qs_b r f) := fun j e => by
  rcases qs_b_e e with z | ⟨x, z1, z2⟩
  · exact h j z
  · exact g x z1 j z2
theorem n9_inr {α : Type} (a : α) : qs_n9 (.inr a : qR α) := fun j e => by cases e
theorem n9_adv (b : Nat → Nat) (st : qP) : qs_n9 (qs_adv b st) := fun j e => by unfold qs_adv at e; split at e <;> cases e
theorem n9_ex (b : Nat → Nat) (m : Nat) (st : qP) : qs_n9 (qs_ex b m st) := fun j e => by
  unfold qs_ex at e
  split at e
  · exact n9_adv b st j e
  · cases e
theorem n9_op (b : Nat → Nat) (o : Nat) (st : qP) : qs_n9 (qs_op1 b o st) := fun j e => by unfold qs_op1 at e; split at e <;> cases e
theorem n9_fit {α : Type} {c : Bool} {j : Nat} {r : qR α} (h : c = true → qs_n9 r) : qs_n9 (qs_fit c j r) := fun i e => by
  unfold qs_fit at e
  split at e
  · exact h (by assumption) i e
  · cases e
theorem n9_if {α : Type} {c : Prop} [Decidable c] {x y : qR α} (h : c → qs_n9 x) (g : ¬ c → qs_n9 y) : qs_n9 (if c then x else y) := by
  by_cases z : c
  · rw [if_pos z]; exact h z
  · rw [if_neg z]; exact g z
theorem n9_2 {α : Type} {k : Nat} (j : Nat) (h : k ≠ 9) : qs_n9 (.inl (k, j) : qR α) := fun i e => by cases e; exact h rfl
def qs_rk (tag : Nat) : Nat := if tag = 0 then 4 else if tag = 2 then 3 else if tag = 4 then 2 else if tag = 5 then 1 else 0
section
variable {b ln : Nat → Nat} {len : Nat}
def qs_mu (len tag : Nat) (st : qP) : Nat := 5 * (len + 1 - st.1) + qs_rk tag
theorem qs_fuel (hB : qt_B b len) (hln : ∀ c, c < 10 → ln c ≤ 8) : ∀ n tag x y o d st, qs_G b len st → (tag = 2 ∨ tag = 3 → 1 ≤ x) → (tag = 6 → qt_m b st.1 = 3) → (tag = 1 → qt_m b st.1 = 59) → (tag = 1 ∨ tag = 3 → qs_D st.2.length d) → qs_mu len tag st ≤ n → qs_n9 (qs_p b ln n tag x y o d st)
  | 0 => fun tag x y o d st hG _ _ _ _ hm => by have := hG.1; unfold qs_mu at hm; omega
  | n + 1 => fun tag x y o d st hG p1 p2 p3 p4 hm => by
    have gd := qs_good hB hln n
    have ih := qs_fuel hB hln n
    have hp := hG.1
    have hsum : ∀ {o : Nat} {st' : qP}, qs_G b len st' → st.1 < st'.1 → qs_n9 (qs_p b ln n 0 0 0 o (d_lf 0 []) st') := fun {o st'} hG' hlt => ih 0 0 0 o _ st' hG' (by omega) (by omega) (by omega) (by omega) (by
      have := hG'.1
      unfold qs_mu at hm ⊢
      have : qs_rk 0 = 4 := rfl
      omega)
    match tag, hm, p1, p2, p3, p4 with
    | 0, hm, p1, p2, p3, p4 =>
      show qs_n9 (qs_sum b (qs_p b ln n) o st)
      refine n9_b (ih 2 1 0 o _ st hG (by omega) (by omega) (by omega) (by omega) (by unfold qs_mu at hm ⊢; have : qs_rk 0 = 4 := rfl; have : qs_rk 2 = 3 := rfl; omega)) (fun q hq => n9_if (fun hc => ?_) (fun _ => n9_inr _))
      obtain ⟨a1, a2, a3, a4⟩ := (gd 2 1 0 o _ st q hq hG).1 (by decide) (by decide) (by omega)
      have := a2.2.1
      exact ih 1 0 0 o q.1 q.2 a1 (by omega) (by omega) (fun _ => hc) (fun _ => a2) (by have := a1.1; unfold qs_mu at hm ⊢; have : qs_rk 0 = 4 := rfl; have : qs_rk 1 = 0 := rfl; omega)
    | 1, hm, p1, p2, p3, p4 =>
      show qs_n9 (qs_choice b (qs_p b ln n) o d st)
      refine n9_b (n9_op _ _ _) (fun st0 h0 => n9_fit (fun _ => n9_b (n9_adv _ _) (fun st1 h1 => ?_)))
      obtain ⟨e0, -⟩ := qs_op1_of h0
      rw [e0] at h1
      obtain ⟨g1, g2, g3⟩ := qs_G_adv hB hG (by have := p3 rfl; omega) h1
      refine n9_b (hsum g1 g2) (fun q hq => n9_b (n9_ex _ _ _) (fun st2 h2 => n9_b ?_ (fun r hr => n9_fit (fun _ => n9_inr _))))
      obtain ⟨a1, a2, a3, a4⟩ := (gd 0 0 0 _ _ st1 q hq g1).1 (by decide) (by decide) (by omega)
      obtain ⟨x1, x2⟩ := qs_ex_of h2
      obtain ⟨k1, k2, k3⟩ := qs_G_adv hB a1 (by omega) x2
      exact hsum k1 (by omega)
    | 2, hm, p1, p2, p3, p4 =>
      show qs_n9 (qs_joined b (qs_p b ln n) x o st)
      have hx := p1 (Or.inl rfl)
      have r2 : qs_rk 2 = 3 := rfl
      have r3 : qs_rk 3 = 0 := rfl
      have r4 : qs_rk 4 = 2 := rfl
      refine n9_if (fun hc => ?_) (fun hc => ?_)
      · refine n9_b (n9_op _ _ _) (fun st0 h0 => n9_b (n9_adv _ _) (fun st1 h1 => ?_))
        obtain ⟨e0, -⟩ := qs_op1_of h0
        rw [e0] at h1
        obtain ⟨g1, g2, g3⟩ := qs_G_adv hB hG (by omega) h1
        have hg1 := g1.1
        refine n9_b (ih 2 3 0 _ _ st1 g1 (by omega) (by omega) (by omega) (by omega) (by unfold qs_mu at hm ⊢; omega)) (fun q hq => n9_fit (fun hf => ?_))
        obtain ⟨a1, a2, a3, a4⟩ := (gd 2 3 0 _ _ st1 q hq g1).1 (by decide) (by decide) (by omega)
        have ha1 := a1.1
        have z := qs_beq.mp hf
        refine ih 3 x 2 o _ q.2 a1 (fun _ => hx) (by omega) (by omega) (fun _ => ?_) (by unfold qs_mu at hm ⊢; omega)
        rw [z]
        exact D_un a2 (by decide) (Or.inr z) T_not (by decide)
      · refine n9_b (ih 4 0 0 _ _ st hG (by omega) (by omega) (by omega) (by omega) (by unfold qs_mu at hm ⊢; omega)) (fun q hq => ?_)
        obtain ⟨a1, a2, a3, a4⟩ := (gd 4 0 0 _ _ st q hq hG).1 (by decide) (by decide) (by omega)
        have ha1 := a1.1
        have := a2.2.1
        exact ih 3 x 8 o _ q.2 a1 (fun _ => hx) (by omega) (by omega) (fun _ => a2) (by unfold qs_mu at hm ⊢; omega)
    | 3, hm, p1, p2, p3, p4 =>
      show qs_n9 (qs_loop b (qs_p b ln n) x y o d st)
      have hx := p1 (Or.inr rfl)
      have hD := p4 (Or.inr rfl)
      have r2 : qs_rk 2 = 3 := rfl
      have r3 : qs_rk 3 = 0 := rfl
      refine n9_if (fun hc => ?_) (fun hc => n9_inr _)
      refine n9_b (n9_adv _ _) (fun st1 h1 => ?_)
      obtain ⟨g1, g2, g3⟩ := qs_G_adv hB hG (fun z => by rw [z] at hc; have := hc.1; exact absurd (show 1 ≤ qs_sv 0 by omega) (by decide)) h1
      have hg1 := g1.1
      refine n9_b (ih 2 _ 0 _ _ st1 g1 (by omega) (by omega) (by omega) (by omega) (by unfold qs_mu at hm ⊢; omega)) (fun q hq => n9_fit (fun hf => ?_))
      obtain ⟨a1, a2, a3, a4⟩ := (gd 2 _ 0 _ _ st1 q hq g1).1 (by decide) (by decide) (by omega)
      have ha1 := a1.1
      rw [g3] at a3
      exact ih 3 x _ o _ q.2 a1 (fun _ => hx) (by omega) (by omega) (fun _ => D_join (m := qt_m b st.1) (by omega) (qs_Q_up hB a1 hD (by omega)) a2 hf) (by unfold qs_mu at hm ⊢; omega)
    | 4, hm, p1, p2, p3, p4 =>
      show qs_n9 (qs_signed b (qs_p b ln n) o st)
      have r4 : qs_rk 4 = 2 := rfl
      have r5 : qs_rk 5 = 1 := rfl
      refine n9_if (fun hc => ?_) (fun hc => ih 5 0 0 _ _ st hG (by omega) (by omega) (by omega) (by omega) (by unfold qs_mu at hm ⊢; omega))
      refine n9_b (n9_op _ _ _) (fun st0 h0 => n9_b (n9_adv _ _) (fun st1 h1 => ?_))
      obtain ⟨e0, -⟩ := qs_op1_of h0
      rw [e0] at h1
      obtain ⟨g1, g2, g3⟩ := qs_G_adv hB hG (by omega) h1
      have hg1 := g1.1
      exact n9_b (ih 4 0 0 _ _ st1 g1 (by omega) (by omega) (by omega) (by omega) (by unfold qs_mu at hm ⊢; omega)) (fun q hq => n9_fit (fun _ => n9_inr _))
    | 5, hm, p1, p2, p3, p4 =>
      show qs_n9 (qs_part b (qs_p b ln n) o st)
      have r5 : qs_rk 5 = 1 := rfl
      have r6 : qs_rk 6 = 0 := rfl
      have r7 : qs_rk 7 = 0 := rfl
      have lay : ∀ {d : qDen} {st : qP}, qs_n9 (qs_lay b d st) := n9_b (n9_adv _ _) (fun _ _ => n9_inr _)
      refine n9_if (fun _ => lay) (fun _ => n9_if (fun _ => lay) (fun _ => n9_if (fun _ => lay) (fun _ => n9_if (fun _ => lay) (fun _ => n9_if (fun _ => lay) (fun _ => n9_if (fun h3 => ih 6 0 0 _ _ st hG (by omega) (fun _ => h3) (by omega) (by omega) (by unfold qs_mu at hm ⊢; omega)) (fun _ => n9_if (fun hc => ?_) (fun _ => ih 7 0 0 _ _ st hG (by omega) (by omega) (by omega) (by omega) (by unfold qs_mu at hm ⊢; omega))))))))
      refine n9_b (n9_op _ _ _) (fun st0 h0 => n9_b (n9_adv _ _) (fun st1 h1 => ?_))
      obtain ⟨e0, -⟩ := qs_op1_of h0
      rw [e0] at h1
      obtain ⟨g1, g2, g3⟩ := qs_G_adv hB hG (by omega) h1
      exact n9_b (hsum g1 g2) (fun q hq => n9_b (n9_ex _ _ _) (fun _ _ => n9_inr _))
    | 6, hm, p1, p2, p3, p4 =>
      show qs_n9 (qs_cell b ln (qs_p b ln n) o st)
      refine n9_if (fun _ => n9_2 _ (by decide)) (fun _ => n9_b (n9_adv _ _) (fun st1 h1 => n9_if (fun hc => ?_) (fun _ => n9_inr _)))
      obtain ⟨g1, g2, g3⟩ := qs_G_adv hB hG (by have := p2 rfl; omega) h1
      refine n9_b (n9_op _ _ _) (fun st0 h0 => n9_b (n9_adv _ _) (fun st3 h3 => ?_))
      obtain ⟨e0, -⟩ := qs_op1_of h0
      rw [e0] at h3
      obtain ⟨k1, k2, k3⟩ := qs_G_adv hB g1 (by omega) h3
      exact n9_b (hsum k1 (by omega)) (fun q hq => n9_b (n9_ex _ _ _) (fun _ _ => n9_fit (fun _ => n9_inr _)))
    | t + 7, hm, p1, p2, p3, p4 =>
      show qs_n9 (qs_func b (qs_p b ln n) o st)
      refine n9_if (fun hc0 => n9_b (n9_adv _ _) (fun st1 h1 => n9_if (fun hc => ?_) (fun _ => n9_2 _ (by decide)))) (fun _ => n9_2 _ (by decide))
      obtain ⟨g1, g2, g3⟩ := qs_G_adv hB hG (by omega) h1
      refine n9_b (n9_op _ _ _) (fun st0 h0 => n9_b (n9_adv _ _) (fun st3 h3 => ?_))
      obtain ⟨e0, -⟩ := qs_op1_of h0
      rw [e0] at h3
      obtain ⟨k1, k2, k3⟩ := qs_G_adv hB g1 (by omega) h3
      refine n9_b (hsum k1 (by omega)) (fun q hq => n9_if (fun _ => n9_b (n9_ex _ _ _) (fun st4 h4 => ?_)) (fun _ => n9_b (n9_ex _ _ _) (fun _ _ => n9_fit (fun _ => n9_inr _))))
      obtain ⟨a1, a2, a3, a4⟩ := (gd 0 0 0 _ _ st3 q hq k1).1 (by decide) (by decide) (by omega)
      obtain ⟨x1, x2⟩ := qs_ex_of h4
      obtain ⟨l1, l2, l3⟩ := qs_G_adv hB a1 (by omega) x2
      exact n9_b (hsum l1 (by omega)) (fun r hr => n9_b (n9_ex _ _ _) (fun _ _ => n9_fit (fun _ => n9_inr _)))
end
