/-! what holds between any two calls -/
/-- the kind of a lane -/
def qw_kd (l : Nat) : Nat := if l = 0 then 0 else if l < 5 then 1 else l - 3
/-- one act that jumps nowhere, by the kinds on the pile, the top first; nr: how many reals there are -/
def qw_st (nr : Nat) (o a : Int32) (s t : List Nat) : Prop :=
  (o = 1 ∧ (t = 1 :: s ∨ (t = 0 :: s ∧ (a = 0 ∨ a = 1)))) ∨
  (o = 2 ∧ t = 4 :: s ∧ qc_inb a nr = true) ∨
  (o = 3 ∧ t = 1 :: s) ∨
  (∃ l r, l < 8 ∧ o = nI (10 + l) ∧ qc_inb a 10 = true ∧ s = 1 :: r ∧ t = qw_kd l :: r) ∨
  (∃ l r, l < 8 ∧ o = nI (20 + l) ∧ qc_inb a 10 = true ∧ s = qw_kd l :: 1 :: r ∧ t = r) ∨
  (∃ g k r, 1 ≤ g ∧ g ≤ 5 ∧ 1 ≤ k ∧ k ≤ 4 ∧ o = nI (100 * g + k) ∧ s = k :: k :: r ∧ t = k :: r) ∨
  (∃ g k r, 6 ≤ g ∧ g ≤ 8 ∧ 1 ≤ k ∧ k ≤ 2 ∧ o = nI (100 * g + k) ∧ s = k :: k :: r ∧ t = k :: r) ∨
  (∃ g r, 6 ≤ g ∧ g ≤ 8 ∧ o = nI (100 * g + 1) ∧ s = 0 :: 0 :: r ∧ t = 0 :: r) ∨
  (∃ g k r, 9 ≤ g ∧ g ≤ 11 ∧ 1 ≤ k ∧ k ≤ 2 ∧ o = nI (100 * g + k) ∧ s = 1 :: k :: r ∧ t = k :: r) ∨
  (∃ k r, 1 ≤ k ∧ k ≤ 4 ∧ o = nI (1200 + k) ∧ s = k :: r ∧ t = k :: r) ∨
  (∃ k r, 1 ≤ k ∧ k ≤ 2 ∧ o = nI (1300 + k) ∧ s = k :: r ∧ t = k :: r) ∨
  (∃ k r, 1 ≤ k ∧ k ≤ 4 ∧ o = nI (1400 + k) ∧ s = k :: k :: r ∧ t = 1 :: r) ∨
  (∃ r, o = 1401 ∧ s = 0 :: 0 :: r ∧ t = 1 :: r) ∨
  (∃ j r, j < 6 ∧ o = nI (1500 + j) ∧ s = 1 :: r ∧ t = 0 :: r) ∨
  (∃ f k r, 1 ≤ f ∧ f ≤ 4 ∧ 1 ≤ k ∧ k ≤ 4 ∧ o = nI (1600 + 10 * f + k) ∧ s = f :: r ∧ t = k :: r) ∨
  (∃ k r, 1 ≤ k ∧ k ≤ 3 ∧ o = nI (1650 + k) ∧ s = 1 :: r ∧ t = 1 :: r) ∨
  (∃ k r, 1 ≤ k ∧ k ≤ 4 ∧ o = nI (1700 + k) ∧ s = k :: r ∧ t = k :: r) ∨
  (∃ j r, 1 ≤ j ∧ j ≤ 3 ∧ o = nI (1704 + 10 * j) ∧ s = 4 :: r ∧ t = 4 :: r) ∨
  (∃ k r, 3 ≤ k ∧ k ≤ 4 ∧ o = nI (1740 + k) ∧ s = k :: r ∧ t = k :: r) ∨
  (∃ j k r, 5 ≤ j ∧ j ≤ 6 ∧ 1 ≤ k ∧ k ≤ 4 ∧ o = nI (1700 + 10 * j + k) ∧ s = k :: k :: r ∧ t = k :: r) ∨
  (∃ r, o = 1810 ∧ s = 0 :: r ∧ t = 0 :: r)
/-- one act at its place; H: the kinds on the pile ahead of each place -/
def qw_at (nr n : Nat) (op ar : Nat → Int32) (H : Nat → List Nat) (i : Nat) : Prop :=
  qw_st nr (op i) (ar i) (H i) (H (i + 1)) ∨
  ((op i = 1800 ∨ op i = 1801) ∧ ∃ t, ar i = nI t ∧ i < t ∧ t ≤ n ∧ H i = 0 :: H (i + 1) ∧ H t = H (i + 1)) ∨
  (op i = 1802 ∧ ∃ t, ar i = nI t ∧ i < t ∧ t ≤ n ∧ H t = H i)
/-- code that can be run: what it leaves on the pile is res -/
def qw_wf (nr n : Nat) (op ar : Nat → Int32) (res : List Nat) : Prop :=
  n ≤ 200 ∧ ∃ H : Nat → List Nat, H 0 = [] ∧ H n = res ∧ (∀ i, i ≤ n → (H i).length ≤ 24) ∧ ∀ i, i < n → qw_at nr n op ar H i
/-- no store among these acts -/
def qw_ns (n : Nat) (op : Nat → Int32) : Prop := ∀ i, i < n → ∀ l, l < 8 → op i ≠ nI (20 + l)
def qv_vis (a : Nat) : Bool := Nat.ble 338 a || Nat.beq a 290 || Nat.beq a 305 || (Nat.ble 315 a && Nat.ble a 323)
def qv {α : Type} (z : α) (f : Nat → Nat → α) : Nat → Nat → α := fun a k => if qv_vis a = true then f a k else z
/-- the class's words for how to fold, and the reference's numbers -/
def qq_how (m : Nat) (h : Int32) : Prop := (m = 10 ∧ h = 0) ∨ (m = 11 ∧ h = 1) ∨ (m = 27 ∧ h = 2) ∨ (m = 28 ∧ h = 3) ∨ (m = 12 ∧ h = 4)
/-- a query of both, by what can be seen -/
def qq_B (w : qcW) (I : qTI) (D : qTD) (R : qTR) (q : Nat) : Prop :=
  ∃ n0 n1 n2 nr : Nat,
  (qc_io w (R 290 q) 6 = true ∧ 338 ≤ R 290 q ∧
   qc_ia w (R (R 290 q) 0) 100 = true ∧ 338 ≤ R (R 290 q) 0 ∧ w.2.2 (R (R 290 q) 0) = n0 + n1 + n2 ∧
   qc_ia w (R (R 290 q) 1) 100 = true ∧ 338 ≤ R (R 290 q) 1 ∧ w.2.2 (R (R 290 q) 1) = n0 + n1 + n2 ∧
   qc_ia w (R (R 290 q) 2) 100 = true ∧ 338 ≤ R (R 290 q) 2 ∧ w.2.2 (R (R 290 q) 2) = 4 ∧
   qc_ia w (R (R 290 q) 3) 102 = true ∧ 338 ≤ R (R 290 q) 3 ∧ w.2.2 (R (R 290 q) 3) = nr ∧ qc_l62 (R (R 290 q) 5) = true) ∧
  (n0 ≤ 200 ∧ n1 ≤ 200 ∧ n2 ≤ 200 ∧ nr ≤ 100 ∧
   I (R (R 290 q) 2) 0 = nI 0 ∧ I (R (R 290 q) 2) 1 = nI n0 ∧ I (R (R 290 q) 2) 2 = nI (n0 + n1) ∧ I (R (R 290 q) 2) 3 = nI (n0 + n1 + n2) ∧
   I 317 (3 * q) = nI n0 ∧ I 317 (3 * q + 1) = nI n1 ∧ I 317 (3 * q + 2) = nI n2) ∧
  ((∀ i, i < n0 → I (R (R 290 q) 0) i = I 315 (600 * q + i) ∧ I (R (R 290 q) 1) i = I 316 (600 * q + i)) ∧
   (∀ i, i < n1 → I (R (R 290 q) 0) (n0 + i) = I 315 (600 * q + 200 + i) ∧ I (R (R 290 q) 1) (n0 + i) = I 316 (600 * q + 200 + i)) ∧
   (∀ i, i < n2 → I (R (R 290 q) 0) (n0 + n1 + i) = I 315 (600 * q + 400 + i) ∧ I (R (R 290 q) 1) (n0 + n1 + i) = I 316 (600 * q + 400 + i)) ∧
   (∀ i, i < nr → D (R (R 290 q) 3) i = D 305 (100 * q + i) ∧ qc_n64 (D 305 (100 * q + i)) = true)) ∧
  ((n0 = 0 ∨ qw_wf nr n0 (fun i => I 315 (600 * q + i)) (fun i => I 316 (600 * q + i)) [0]) ∧ qw_ns n0 (fun i => I 315 (600 * q + i)) ∧
   (n2 = 0 ∨ qw_wf nr n2 (fun i => I 315 (600 * q + 400 + i)) (fun i => I 316 (600 * q + 400 + i)) [1] ∨ qw_wf nr n2 (fun i => I 315 (600 * q + 400 + i)) (fun i => I 316 (600 * q + 400 + i)) [2]) ∧ qw_ns n2 (fun i => I 315 (600 * q + 400 + i))) ∧
  ((I 318 q = 0 ∧ R (R 290 q) 4 = 5 ∧ n2 = 0 ∧ qw_ns n1 (fun i => I 315 (600 * q + 200 + i)) ∧
     ((n1 = 0 ∧ I (R 290 q) 6 = 2 ∧ I 319 q = -1 ∧ I (R 290 q) 8 = 0) ∨ (qw_wf nr n1 (fun i => I 315 (600 * q + 200 + i)) (fun i => I 316 (600 * q + 200 + i)) [4] ∧ 0 < n1 ∧ I (R 290 q) 6 = 4 ∧ ((I 319 q = 0 ∧ I (R 290 q) 8 = 1) ∨ (I 319 q = 1 ∧ I (R 290 q) 8 = -1)))) ∧
     ((I 320 q = -1 ∧ I (R 290 q) 9 = 16) ∨ (I (R 290 q) 9 = I 320 q ∧ 0 ≤ I 320 q))) ∨
   (I 318 q = 1 ∧ R (R 290 q) 4 = 9 ∧ I (R 290 q) 9 = 16 ∧ qw_ns n1 (fun i => I 315 (600 * q + 200 + i)) ∧ I (R 290 q) 6 = I 322 q ∧ qq_how (R (R 290 q) 5) (I 321 q) ∧
     ∃ k : Nat, I 322 q = nI k ∧ 1 ≤ k ∧ k ≤ 4 ∧ (I 321 q = 0 → k = 2) ∧ (I 321 q = 1 → k = 2 ∨ k = 4) ∧ (I 321 q = 4 → k = 4) ∧ ((I 321 q = 0 ∧ n1 = 0) ∨ (I 321 q ≠ 0 ∧ 0 < n1 ∧ qw_wf nr n1 (fun i => I 315 (600 * q + 200 + i)) (fun i => I 316 (600 * q + 200 + i)) [k]))) ∨
   (I 318 q = 2 ∧ R (R 290 q) 4 = 15 ∧ n2 = 0 ∧ I (R 290 q) 9 = 16 ∧ I (R 290 q) 6 = 2 ∧ I (R 290 q) 8 = 0 ∧ 0 < n1 ∧
     qw_wf nr n1 (fun i => I 315 (600 * q + 200 + i)) (fun i => I 316 (600 * q + 200 + i)) [] ∧ qw_ns (n1 - 1) (fun i => I 315 (600 * q + 200 + i)) ∧ qc_inb (I (R 290 q) 7) 10 = true ∧ ∃ l, l < 8 ∧ I 315 (600 * q + 200 + (n1 - 1)) = nI (20 + l) ∧ I 316 (600 * q + 200 + (n1 - 1)) = I (R 290 q) 7))
def qq_Q (w : qcW) (I : qTI) (D : qTD) (R : qTR) (q : Nat) : Prop := qq_B w (qv 0 I) (qv 0 D) (qv 0 R) q
/-- the tape -/
def qi_tape (I : qTI) : Prop := I 265 1 = I 291 7 ∧ qc_inb (I 265 1) 401 = true ∧ ∀ k, k < 400 → I 266 k = I 297 k ∧ qc_inb (I 266 k) 256 = true
/-- what is known of the latest run -/
def qi_lat (n : Int32) (lX lM : Nat → Int32) (ac : Int64) (how : Nat) (wX wM : Nat → Int32) (sX sM : Nat → UInt64) (kX kM vX vM : Nat → Int64) (dX dM : Nat → UInt64) (hw : Nat → Int32) : Prop :=
  lX 0 = lM 77 ∧ lX 1 = lM 78 ∧ lX 2 = lM 79 ∧ lX 3 = lM 80 ∧ lX 4 = ac.toInt32 ∧ lX 5 = lM 81 ∧ lX 6 = lM 82 ∧
  ∃ h : Nat, lX 5 = nI h ∧ h ≤ 16 ∧ (∀ k, k < h → wX k = wM k ∧ qc_inb (wX k) 17 = true) ∧
  ((lX 6 = 0 ∧ ∀ k, k < h → sX k = sM k ∧ qc_n64 (sX k) = true) ∨
   (lX 6 = 1 ∧ h ≤ 8 ∧ (∀ k, k < h → kX k = kM k) ∧ ∃ r c : Nat, lM 77 = nI r ∧ r < 12 ∧ nI r < n ∧ lX 13 = nI c ∧ lM 88 = nI c ∧ 1 ≤ c ∧ c ≤ 4 ∧ qq_how how (hw r) ∧ (hw r = 4 → c = 4) ∧
     ∀ k, k < h → (c ≤ 2 → vX k = vM k) ∧ (3 ≤ c → dX k = dM k ∧ qc_n64 (dX k) = true ∧ (wX k = 0 → dX k = 0)) ∧ (c = 3 → qf_isF (dX k))))
def Inv (w : qcW) (M : qcM) : Prop :=
  qcNF ≤ w.1 ∧ qc_FR M.2.2.2 ∧ (M.1 256 7 = M.1 291 0 ∧ qc_inb (M.1 256 7) 17 = true) ∧
  qi_cols (M.1 258) (M.1 292) (M.1 259) (M.1 293) (M.1 260) (M.1 294) (M.2.1 261) (M.2.1 295) (M.2.2.1 262) (M.2.2.1 296) ∧
  qi_tape M.1 ∧ M.1 256 8 = M.1 291 64 ∧ (∀ k, k < 32 → qc_n64 (M.2.2.1 329 k) = true) ∧
  (M.1 256 6 = M.1 291 40 ∧ ∃ n : Nat, M.1 256 6 = nI n ∧ n ≤ 12 ∧ ∀ q, q < n → qq_Q w M.1 M.2.2.1 M.2.2.2 q) ∧
  qi_lat (M.1 256 6) (M.1 280) (M.1 291) (M.2.1 291 70) (M.2.2.2 280 12) (M.1 281) (M.1 333) (M.2.2.1 282) (M.2.2.1 334) (M.2.1 283) (M.2.1 335) (M.2.1 284) (M.2.1 336) (M.2.2.1 285) (M.2.2.1 337) (M.1 321)
/-- a pair of calls, as functions -/
def qv_pp {ρ : Type} (w : qcW) (fX fM : qTI → qTL → qTD → qTR → qcO ρ) (M : qcM) : Prop :=
  ∃ (r : ρ) (I1 : qTI) (L1 : qTL) (D1 : qTD) (R1 : qTR) (I2 : qTI) (L2 : qTL) (D2 : qTD) (R2 : qTR), fX M.1 M.2.1 M.2.2.1 M.2.2.2 = some (r, I1, L1, D1, R1) ∧ fM I1 L1 D1 R1 = some (r, I2, L2, D2, R2) ∧ (qc_FR R2 → Inv w (I2, L2, D2, R2))
theorem qv_on {α : Type} (z : α) (f : Nat → Nat → α) {a : Nat} (h : qv_vis a = true) : qv z f a = f a := by funext k; exact if_pos h
theorem qv_u {α : Type} (z : α) (f : Nat → Nat → α) {a k : Nat} {x : α} (h : qv_vis a = false) : qv z (qc_u f a k x) = qv z f := by
  funext b j
  unfold qv
  split
  · rename_i hv
    rw [qc_u_off f x (fun e => by rw [e, h] at hv; cases hv)]
  · rfl
