/-! a whole query: what it says -/
/-- where, the sum, by, order (1 rising, 2 falling), first, how (5: none), target -/
abbrev qX : Type := Option qDen × Option qDen × Option qDen × Nat × Option Nat × Nat × Option Nat
abbrev qXS : Type := qX × qP
section
variable (b ln : Nat → Nat) (n : Nat)
def q_cond (x : qX) (st : qP) : qR qXS := qs_b (qs_p b ln n 2 1 0 0 (d_lf 0 []) st) fun r => qs_fit (Nat.beq r.1.1 0) (qt_from b r.2.1) <| .inr ((some r.1, x.2), r.2)
def q_where (x : qX) (st : qP) : qR qXS := if qt_m b st.1 = 13 then qs_b (qs_adv b st) fun st1 => q_cond b ln n x st1 else .inr (x, st)
def q_main (x : qX) (st : qP) : qR qXS := qs_b (qs_p b ln n 0 0 0 0 (d_lf 0 []) st) fun r => qs_fit (!(Nat.beq r.1.1 0)) (qt_from b r.2.1) <| .inr ((x.1, some r.1, x.2.2), r.2)
def q_by (x : qX) (st : qP) : qR qXS := if qt_m b st.1 = 14 then qs_b (qs_adv b st) fun st1 => qs_b (qs_p b ln n 0 0 0 0 (d_lf 0 []) st1) fun r => qs_fit (qs_wh r.1.1) (qt_from b r.2.1) <| .inr ((x.1, x.2.1, some r.1, x.2.2.2), r.2) else .inr (x, st)
def q_ord (x : qX) (o : Nat) : qX := (x.1, x.2.1, x.2.2.1, o, x.2.2.2.2)
def q_fst (x : qX) (v : Nat) : qX := (x.1, x.2.1, x.2.2.1, x.2.2.2.1, some v, x.2.2.2.2.2)
def q_how (x : qX) (h : Nat) : qX := (x.1, x.2.1, x.2.2.1, x.2.2.2.1, x.2.2.2.2.1, h, x.2.2.2.2.2.2)
def q_down (x : qX) (st : qP) : qR qXS := if qt_m b st.1 = 7 then qs_b (qs_adv b st) fun st1 => .inr (q_ord x 2, st1) else .inr (q_ord x 1, st)
def q_order (x : qX) (st : qP) : qR qXS := if qt_m b st.1 = 6 then qs_b (qs_adv b st) fun st1 => qs_b (q_main b ln n x st1) fun s => q_down b s.1 s.2 else .inr (x, st)
def q_first (x : qX) (st : qP) : qR qXS := if qt_m b st.1 = 8 then qs_b (qs_adv b st) fun st1 => if qt_m b st1.1 = 1 then qs_b (qs_adv b st1) fun st2 => .inr (q_fst x (qt_n b st1.1), st2) else .inl (2, qt_from b st1.1) else .inr (x, st)
def q_find (x : qX) (st : qP) : qR qXS := qs_b (q_cond b ln n x st) fun s => qs_b (q_order b ln n s.1 s.2) fun s => q_first b s.1 s.2
def q_hw (m : Nat) : Nat := if m = 10 then 0 else if m = 11 then 1 else if m = 27 then 2 else if m = 28 then 3 else if m = 12 then 4 else 5
def q_fold (x : qX) (st : qP) : qR qXS := if q_hw (qt_m b st.1) = 5 then .inl (2, qt_from b st.1) else qs_b (qs_adv b st) fun st1 => qs_b (if q_hw (qt_m b st.1) = 0 then .inr (q_how x 0, st1) else q_main b ln n (q_how x (q_hw (qt_m b st.1))) st1) fun s => qs_b (q_where b ln n s.1 s.2) fun s => q_by b ln n s.1 s.2
def q_to (x : qX) (d : qDen) (c : Nat) : qX := (x.1, some d, x.2.2.1, x.2.2.2.1, x.2.2.2.2.1, x.2.2.2.2.2.1, some c)
def q_set (x : qX) (st : qP) : qR qXS := if qt_m b st.1 = 3 then (if ln (qt_n b st.1) = 8 then .inl (5, qt_from b st.1) else qs_b (qs_adv b st) fun st1 => qs_b (qs_ex b 61 st1) fun st2 => qs_b (qs_p b ln n 0 0 0 0 (d_lf 0 []) st2) fun r => qs_fit (Nat.beq r.1.1 0 == Nat.beq (ln (qt_n b st.1)) 0) (qt_from b st1.1) <| q_where b ln n (q_to x r.1 (qt_n b st.1)) r.2) else .inl (2, qt_from b st.1)
def q_x0 : qX := (none, none, none, 0, none, 5, none)
def q_end (sort : Nat) (s : qXS) : qR (Nat × qXS) := if qt_m b s.2.1 = 0 then .inr (sort, s) else .inl (2, qt_from b s.2.1)
def q_body (sort : Nat) (st : qP) : qR qXS := if sort = 0 then q_find b ln n q_x0 st else if sort = 1 then q_fold b ln n q_x0 st else q_set b ln n q_x0 st
def q_so (m : Nat) : Nat := if m = 5 then 0 else if m = 9 then 1 else if m = 15 then 2 else 3
def q_read : qR (Nat × qXS) := if qt_m b 0 = 63 then .inl (1, qt_from b 0) else if q_so (qt_m b 0) = 3 then .inl (2, qt_from b 0) else qs_b (qs_adv b (0, [])) fun st => qs_b (q_body b ln n (q_so (qt_m b 0)) st) fun s => q_end b (q_so (qt_m b 0)) s
end
def q_want (h k : Nat) : Nat := if h = 1 then (if k ≤ 2 then 2 else 4) else if h = 4 then 4 else k
def q_c0 (o : Option qDen) : List (Nat × Nat) := match o with
  | none => []
  | some d => d.2.2.2
def q_n0 (o : Option qDen) : Nat := match o with
  | none => 0
  | some d => d.2.1
def q_cs (l c : Nat) : List (Nat × Nat) := (if 1 ≤ l ∧ l ≤ 3 then [(1650 + l, 0)] else []) ++ [(20 + l, c)]
/-- the code of the second part -/
def q_c1 (ln : Nat → Nat) (sort : Nat) (x : qX) : List (Nat × Nat) := match x.2.1 with
  | none => []
  | some d => if sort = 2 then [(3, 0)] ++ qs_sh 1 d.2.2.2 ++ qs_cv d.1 (qw_kd (ln (x.2.2.2.2.2.2.getD 0))) ++ q_cs (ln (x.2.2.2.2.2.2.getD 0)) (x.2.2.2.2.2.2.getD 0) else d.2.2.2 ++ qs_cv d.1 (if sort = 0 then 4 else q_want x.2.2.2.2.2.1 d.1)
def q_n1 (sort : Nat) (x : qX) : Nat := match x.2.1 with
  | none => 0
  | some d => d.2.1 + (if sort = 2 then 1 else 0)
/-- too long, or too high -/
def q_big (ln : Nat → Nat) (sort : Nat) (x : qX) : Prop := 200 < (q_c0 x.1).length ∨ 200 < (q_c1 ln sort x).length ∨ 200 < (q_c0 x.2.2.1).length ∨ 24 < q_n0 x.1 ∨ 24 < q_n1 sort x ∨ 24 < q_n0 x.2.2.1
