/-! a text, its tokens, what they mean: between the two -/
/-- the end of a run of bytes -/
def qt_run (f : Nat → Bool) (b : Nat → Nat) : Nat → Nat → Nat
  | 0, p => p
  | n + 1, p => if f (b p) = true then qt_run f b n (p + 1) else p
def qt_bl (c : Nat) : Bool := Nat.beq c 32 || Nat.beq c 10
def qt_le (c : Nat) : Bool := Nat.ble 97 c && Nat.ble c 122
def qt_fi (c : Nat) : Bool := Nat.ble 48 c && Nat.ble c 57
/-- figures, letters as numbers -/
def qt_dv (b : Nat → Nat) (v s : Nat) : Nat → Nat
  | 0 => v
  | n + 1 => 10 * qt_dv b v s n + (b (s + n) - 48)
def qt_wv (b : Nat → Nat) (s : Nat) : Nat → Nat
  | 0 => 0
  | n + 1 => 32 * qt_wv b s n + (b (s + n) - 96)
def qt_from (b : Nat → Nat) (p : Nat) : Nat := qt_run qt_bl b 401 p
def qt_wL : List (Nat × Nat) := [(206276, 5), (16322738, 6), (147182, 7), (6605428, 8), (212356, 9), (3659220, 10), (20141, 11), (431150, 12), (24385093, 13), (89, 14), (19636, 15), (18935, 16), (25779, 17), (463, 18), (14836, 19), (498, 20), (1476, 21), (1107, 22), (6700530, 23), (103724, 24), (599508, 25), (632046, 26), (13614, 27), (13368, 28), (91781, 29), (20201044, 30), (106546, 31), (9684, 32), (409031, 33), (6700084, 34), (150636933, 35)]
def qt_wm (v : Nat) : Nat := (qt_wL.lookup v).getD 4
def qt_sL : List (Nat × Nat) := [(43, 48), (45, 49), (42, 50), (47, 51), (37, 52), (38, 42), (124, 43), (94, 44), (126, 53), (40, 54), (41, 55), (91, 56), (93, 57), (44, 58), (61, 36), (63, 59)]
/-- signs: mark and length; 63: none -/
def qt_sg (c d e : Nat) : Nat × Nat :=
  if c = 60 then (if d = 61 then (40, 2) else if d = 60 then (45, 2) else (38, 1))
  else if c = 62 then (if d = 61 then (41, 2) else if d = 62 then (if e = 62 then (47, 3) else (46, 2)) else (39, 1))
  else if c = 33 then (if d = 61 then (37, 2) else (63, 1))
  else if c = 58 then (if d = 61 then (61, 2) else (60, 1))
  else ((qt_sL.lookup c).getD 63, 1)
/-- the end of the figures ahead of a point -/
def qt_f1 (b : Nat → Nat) (s : Nat) : Nat := qt_run qt_fi b 401 s
def qt_isR (b : Nat → Nat) (s : Nat) : Bool := Nat.beq (b (qt_f1 b s)) 46 && qt_fi (b (qt_f1 b s + 1))
def qt_f2 (b : Nat → Nat) (s : Nat) : Nat := qt_run qt_fi b 401 (qt_f1 b s + 1)
def qt_nv (b : Nat → Nat) (s : Nat) : Nat := qt_dv b 0 s (qt_f1 b s - s)
def qt_rv (b : Nat → Nat) (s : Nat) : Nat := qt_dv b (qt_nv b s) (qt_f1 b s + 1) (qt_f2 b s - (qt_f1 b s + 1))
def qt_le_end (b : Nat → Nat) (s : Nat) : Nat := qt_run qt_le b 401 s
def qt_w (b : Nat → Nat) (s : Nat) : Nat := if qt_le_end b s - s ≤ 12 then qt_wv b s (qt_le_end b s - s) else 0
/-- the mark of the token behind p; 63: there is none -/
def qt_m (b : Nat → Nat) (p : Nat) : Nat :=
  if b (qt_from b p) = 256 then 0
  else if qt_le (b (qt_from b p)) = true then qt_wm (qt_w b (qt_from b p))
  else if qt_fi (b (qt_from b p)) = true then (if qt_isR b (qt_from b p) = true then (if (qt_f1 b (qt_from b p) - qt_from b p) + (qt_f2 b (qt_from b p) - (qt_f1 b (qt_from b p) + 1)) ≤ 9 then 2 else 63) else if qt_nv b (qt_from b p) < 2147483648 then 1 else 63)
  else if b (qt_from b p) = 36 then (if qt_fi (b (qt_from b p + 1)) = true then 3 else 63)
  else (qt_sg (b (qt_from b p)) (b (qt_from b p + 1)) (b (qt_from b p + 2))).1
def qt_to (b : Nat → Nat) (p : Nat) : Nat :=
  if b (qt_from b p) = 256 then qt_from b p
  else if qt_le (b (qt_from b p)) = true then qt_le_end b (qt_from b p)
  else if qt_fi (b (qt_from b p)) = true then (if qt_isR b (qt_from b p) = true then qt_f2 b (qt_from b p) else qt_f1 b (qt_from b p))
  else if b (qt_from b p) = 36 then qt_from b p + 2
  else qt_from b p + (qt_sg (b (qt_from b p)) (b (qt_from b p + 1)) (b (qt_from b p + 2))).2
/-- its number, its real -/
def qt_n (b : Nat → Nat) (p : Nat) : Nat := if b (qt_from b p) = 36 then b (qt_from b p + 1) - 48 else qt_nv b (qt_from b p)
def qt_r (b : Nat → Nat) (p : Nat) : UInt64 := FP.ddiv (FP.l2d (nL (qt_rv b (qt_from b p)))) (FP.l2d (nL (10 ^ (qt_f2 b (qt_from b p) - (qt_f1 b (qt_from b p) + 1)))))
/-! what a sum means: its kind, its need of the pile, how many nodes, its code; jumps count from its start -/
abbrev qDen : Type := Nat × Nat × Nat × List (Nat × Nat)
def qs_ij (o : Nat) : Bool := Nat.ble 1800 o && Nat.ble o 1802
def qs_s1 (n : Nat) (q : Nat × Nat) : Nat × Nat := if qs_ij q.1 = true then (q.1, q.2 + n) else q
def qs_sh (n : Nat) (l : List (Nat × Nat)) : List (Nat × Nat) := l.map (qs_s1 n)
def qs_cv (f t : Nat) : List (Nat × Nat) := if f = t then [] else [(1600 + 10 * f + t, 0)]
def d_lf (k : Nat) (l : List (Nat × Nat)) : qDen := (k, 1, 1, l)
def d_un (k kc : Nat) (t : List (Nat × Nat)) (x : qDen) : qDen := (k, x.2.1, x.2.2.1 + 1, x.2.2.2 ++ qs_cv x.1 kc ++ t)
def d_bi (k kx ky : Nat) (t : List (Nat × Nat)) (x y : qDen) : qDen := (k, max x.2.1 (1 + y.2.1), x.2.2.1 + y.2.2.1 + 1, (x.2.2.2 ++ qs_cv x.1 kx) ++ qs_sh (x.2.2.2 ++ qs_cv x.1 kx).length (y.2.2.2 ++ qs_cv y.1 ky) ++ t)
/-- and (v 0), or (v 1) -/
def d_lg (v : Nat) (x y : qDen) : qDen := (0, max x.2.1 y.2.1, x.2.2.1 + y.2.2.1 + 1, x.2.2.2 ++ [(1800 + v, x.2.2.2.length + 1 + y.2.2.2.length + 1)] ++ qs_sh (x.2.2.2.length + 1) y.2.2.2 ++ [(1802, x.2.2.2.length + 1 + y.2.2.2.length + 2), (1, v)])
def d_ch (k : Nat) (c x y : qDen) : qDen := (k, max c.2.1 (max x.2.1 y.2.1), c.2.2.1 + x.2.2.1 + y.2.2.1 + 1,
  c.2.2.2 ++ [(1800, c.2.2.2.length + 1 + (x.2.2.2 ++ qs_cv x.1 k).length + 1)] ++ qs_sh (c.2.2.2.length + 1) (x.2.2.2 ++ qs_cv x.1 k) ++ [(1802, c.2.2.2.length + 1 + (x.2.2.2 ++ qs_cv x.1 k).length + 1 + (y.2.2.2 ++ qs_cv y.1 k).length)] ++ qs_sh (c.2.2.2.length + 1 + (x.2.2.2 ++ qs_cv x.1 k).length + 1) (y.2.2.2 ++ qs_cv y.1 k))
def qs_ko (k : Nat) : Nat := max k 1
/-! marks: strength (0: joins nothing), op, how many sums it takes -/
def qs_sv (m : Nat) : Nat := if m = 20 then 1 else if m = 21 then 2 else if 36 ≤ m ∧ m ≤ 41 then 4 else if 42 ≤ m ∧ m ≤ 44 then 5 else if 45 ≤ m ∧ m ≤ 47 then 6 else if m = 48 ∨ m = 49 then 7 else if 50 ≤ m ∧ m ≤ 52 then 8 else 0
def qs_op (m : Nat) : Nat := if 42 ≤ m ∧ m ≤ 44 then 600 + 100 * (m - 42) else if 45 ≤ m ∧ m ≤ 47 then 900 + 100 * (m - 45) else if m = 48 then 100 else if m = 49 then 200 else if m = 50 then 300 else if m = 51 then 400 else 500
def qs_wh (k : Nat) : Bool := Nat.beq k 1 || Nat.beq k 2
def qs_fits (m k l : Nat) : Bool :=
  if qs_sv m ≤ 2 then (Nat.beq k 0 && Nat.beq l 0)
  else if qs_sv m = 5 then (Nat.beq k 0 && Nat.beq l 0) || (qs_wh k && qs_wh l)
  else if qs_sv m = 6 then qs_wh k && qs_wh l
  else (!(Nat.beq k 0) && !(Nat.beq l 0)) || ((Nat.beq k 0 && Nat.beq l 0) && (Nat.beq m 36 || Nat.beq m 37))
def qs_join (m : Nat) (x y : qDen) : qDen :=
  if qs_sv m ≤ 2 then d_lg (if m = 20 then 1 else 0) x y
  else if qs_sv m = 6 then d_bi x.1 x.1 1 [(qs_op m + x.1, 0)] x y
  else if qs_sv m = 4 then d_bi 0 (max x.1 y.1) (max x.1 y.1) [(1400 + qs_ko (max x.1 y.1), 0), (1500 + (m - 36), 0)] x y
  else d_bi (max x.1 y.1) (max x.1 y.1) (max x.1 y.1) [(qs_op m + qs_ko (max x.1 y.1), 0)] x y
/-- a function of one -/
def qs_fn (m : Nat) (x : qDen) : qDen :=
  if m = 22 then d_un x.1 x.1 [(1700 + x.1, 0)] x
  else if m = 23 ∨ m = 24 ∨ m = 25 then d_un 4 4 [(1704 + 10 * (m - 22), 0)] x
  else if m = 26 then d_un (if x.1 = 3 then 3 else 4) (if x.1 = 3 then 3 else 4) [(1740 + (if x.1 = 3 then 3 else 4), 0)] x
  else if m = 29 ∨ m = 30 ∨ m = 31 then d_un 1 1 [(1651 + (m - 29), 0)] x
  else d_un (m - 31) (m - 31) [] x
/-- min, max -/
def qs_fn2 (m : Nat) (x y : qDen) : qDen := d_bi (max x.1 y.1) (max x.1 y.1) (max x.1 y.1) [(1750 + 10 * (m - 27) + max x.1 y.1, 0)] x y
/-! the parser -/
abbrev qR (α : Type) : Type := (Nat × Nat) ⊕ α
abbrev qP : Type := Nat × List UInt64
def qs_b {α β : Type} (r : qR α) (f : α → qR β) : qR β := match r with
  | .inl e => .inl e
  | .inr a => f a
abbrev qRec : Type := Nat → Nat → Nat → Nat → qDen → qP → qR (qDen × qP)
section
variable (b : Nat → Nat) (ln : Nat → Nat) (rec : qRec)
def qs_adv (st : qP) : qR qP := if qt_m b (qt_to b st.1) = 63 then .inl (1, qt_from b (qt_to b st.1)) else .inr (qt_to b st.1, st.2)
/-- a token that must stand here -/
def qs_ex (m : Nat) (st : qP) : qR qP := if qt_m b st.1 = m then qs_adv b st else .inl (2, qt_from b st.1)
/-- one more is open -/
def qs_op1 (o : Nat) (st : qP) : qR qP := if 12 ≤ o then .inl (3, qt_from b st.1) else .inr st
def qs_fit {α : Type} (c : Bool) (j : Nat) (r : qR α) : qR α := if c = true then r else .inl (4, j)
/-- tag 0 -/
def qs_sum (o : Nat) (st : qP) : qR (qDen × qP) := qs_b (rec 2 1 0 o (d_lf 0 []) st) fun q => if qt_m b q.2.1 = 59 then rec 1 0 0 o q.1 q.2 else .inr q
/-- tag 1: behind c, at a ? -/
def qs_choice (o : Nat) (c : qDen) (st : qP) : qR (qDen × qP) :=
  qs_b (qs_op1 b o st) fun st => qs_fit (Nat.beq c.1 0) (qt_from b st.1) <| qs_b (qs_adv b st) fun st1 => qs_b (rec 0 0 0 (o + 1) (d_lf 0 []) st1) fun q => qs_b (qs_ex b 60 q.2) fun st2 => qs_b (rec 0 0 0 (o + 1) (d_lf 0 []) st2) fun r => qs_fit (Nat.beq q.1.1 0 == Nat.beq r.1.1 0) (qt_from b q.2.1) <| .inr (d_ch (max q.1.1 r.1.1) c q.1 r.1, r.2)
/-- tag 2: what is joined by at least strength x -/
def qs_joined (x o : Nat) (st : qP) : qR (qDen × qP) :=
  if x ≤ 3 ∧ qt_m b st.1 = 19 then
    qs_b (qs_op1 b o st) fun st1 => qs_b (qs_adv b st1) fun st2 => qs_b (rec 2 3 0 (o + 1) (d_lf 0 []) st2) fun q => qs_fit (Nat.beq q.1.1 0) (qt_from b st.1) <| rec 3 x 2 o (d_un 0 q.1.1 [(1810, 0)] q.1) q.2
  else qs_b (rec 4 0 0 o (d_lf 0 []) st) fun q => rec 3 x 8 o q.1 q.2
/-- tag 3: behind d, which may be joined by strengths from x to y -/
def qs_loop (x y o : Nat) (d : qDen) (st : qP) : qR (qDen × qP) :=
  if x ≤ qs_sv (qt_m b st.1) ∧ qs_sv (qt_m b st.1) ≤ y then
    qs_b (qs_adv b st) fun st1 => qs_b (rec 2 (qs_sv (qt_m b st.1) + 1) 0 o (d_lf 0 []) st1) fun q => qs_fit (qs_fits (qt_m b st.1) d.1 q.1.1) (qt_from b st.1) <| rec 3 x (if qs_sv (qt_m b st.1) = 4 then 3 else qs_sv (qt_m b st.1)) o (qs_join (qt_m b st.1) d q.1) q.2
  else .inr (d, st)
/-- tag 4 -/
def qs_signed (o : Nat) (st : qP) : qR (qDen × qP) :=
  if qt_m b st.1 = 49 ∨ qt_m b st.1 = 53 then
    qs_b (qs_op1 b o st) fun st1 => qs_b (qs_adv b st1) fun st2 => qs_b (rec 4 0 0 (o + 1) (d_lf 0 []) st2) fun q => qs_fit (if qt_m b st.1 = 49 then !(Nat.beq q.1.1 0) else qs_wh q.1.1) (qt_from b st.1) <| .inr (d_un q.1.1 q.1.1 [((if qt_m b st.1 = 49 then 1200 else 1300) + q.1.1, 0)] q.1, q.2)
  else rec 5 0 0 o (d_lf 0 []) st
def qs_lay (d : qDen) (st : qP) : qR (qDen × qP) := qs_b (qs_adv b st) fun st => .inr (d, st)
/-- tag 6: a cell -/
def qs_cell (o : Nat) (st : qP) : qR (qDen × qP) :=
  if ln (qt_n b st.1) = 8 then .inl (5, qt_from b st.1) else
  qs_b (qs_adv b st) fun st1 => if qt_m b st1.1 = 56 then
      qs_b (qs_op1 b o st1) fun st2 => qs_b (qs_adv b st2) fun st3 => qs_b (rec 0 0 0 (o + 1) (d_lf 0 []) st3) fun q => qs_b (qs_ex b 57 q.2) fun st4 => qs_fit (Nat.beq q.1.1 1) (qt_from b st1.1) <| .inr (d_un (qw_kd (ln (qt_n b st.1))) q.1.1 [(10 + ln (qt_n b st.1), qt_n b st.1)] q.1, st4)
    else .inr (d_lf (qw_kd (ln (qt_n b st.1))) [(3, 0), (10 + ln (qt_n b st.1), qt_n b st.1)], st1)
/-- tag 7: a function -/
def qs_func (o : Nat) (st : qP) : qR (qDen × qP) :=
  if 22 ≤ qt_m b st.1 ∧ qt_m b st.1 ≤ 35 then
    qs_b (qs_adv b st) fun st1 => if qt_m b st1.1 = 54 then
        qs_b (qs_op1 b o st1) fun st2 => qs_b (qs_adv b st2) fun st3 => qs_b (rec 0 0 0 (o + 1) (d_lf 0 []) st3) fun q =>
          if qt_m b st.1 = 27 ∨ qt_m b st.1 = 28 then
            qs_b (qs_ex b 58 q.2) fun st4 => qs_b (rec 0 0 0 (o + 1) (d_lf 0 []) st4) fun r => qs_b (qs_ex b 55 r.2) fun st5 => qs_fit (!(Nat.beq q.1.1 0) && !(Nat.beq r.1.1 0)) (qt_from b st1.1) <| .inr (qs_fn2 (qt_m b st.1) q.1 r.1, st5)
          else qs_b (qs_ex b 55 q.2) fun st5 => qs_fit (!(Nat.beq q.1.1 0)) (qt_from b st1.1) <| .inr (qs_fn (qt_m b st.1) q.1, st5)
      else .inl (2, qt_from b st1.1)
  else .inl (2, qt_from b st.1)
/-- tag 5 -/
def qs_part (o : Nat) (st : qP) : qR (qDen × qP) :=
  if qt_m b st.1 = 1 then qs_lay b (d_lf 1 [(1, qt_n b st.1)]) st
  else if qt_m b st.1 = 2 then qs_lay b (d_lf 4 [(2, st.2.length)]) (st.1, st.2 ++ [qt_r b st.1])
  else if qt_m b st.1 = 16 then qs_lay b (d_lf 1 [(3, 0)]) st
  else if qt_m b st.1 = 17 then qs_lay b (d_lf 0 [(1, 1)]) st
  else if qt_m b st.1 = 18 then qs_lay b (d_lf 0 [(1, 0)]) st
  else if qt_m b st.1 = 3 then rec 6 0 0 o (d_lf 0 []) st
  else if qt_m b st.1 = 54 then
    qs_b (qs_op1 b o st) fun st1 => qs_b (qs_adv b st1) fun st2 => qs_b (rec 0 0 0 (o + 1) (d_lf 0 []) st2) fun q => qs_b (qs_ex b 55 q.2) fun st3 => .inr (q.1, st3)
  else rec 7 0 0 o (d_lf 0 []) st
end
def qs_p (b ln : Nat → Nat) : Nat → qRec
  | 0 => fun _ _ _ _ _ _ => .inl (9, 0)
  | n + 1 => fun tag x y o d st => match tag with
    | 0 => qs_sum b (qs_p b ln n) o st
    | 1 => qs_choice b (qs_p b ln n) o d st
    | 2 => qs_joined b (qs_p b ln n) x o st
    | 3 => qs_loop b (qs_p b ln n) x y o d st
    | 4 => qs_signed b (qs_p b ln n) o st
    | 5 => qs_part b (qs_p b ln n) o st
    | 6 => qs_cell b ln (qs_p b ln n) o st
    | _ => qs_func b (qs_p b ln n) o st
