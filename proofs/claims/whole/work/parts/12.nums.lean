/-! whole numbers: places in range -/
def qc_inb (i : Int32) (n : Nat) : Bool := decide (0 ≤ i.toInt) && decide (i.toInt < n)
theorem qc_inb_iff {i : Int32} {n : Nat} : qc_inb i n = true ↔ vp_in i n := by rw [vp_in_iff]; simp [qc_inb]
theorem qc_inb_in {i : Int32} {n : Nat} (h : qc_inb i n = true) : vp_in i n := qc_inb_iff.mp h
theorem qc_ib0 {c : Int32} {n : Nat} (h : c.toInt < 0 ∨ (n : Int) ≤ c.toInt) : qc_inb c n = false := by
  unfold qc_inb
  rw [Bool.and_eq_false_iff, decide_eq_false_iff_not, decide_eq_false_iff_not]
  omega
theorem qc_ib1 {c : Int32} {n : Nat} (h0 : 0 ≤ c.toInt) (h1 : c.toInt < n) : qc_inb c n = true := by
  unfold qc_inb
  rw [Bool.and_eq_true, decide_eq_true_eq, decide_eq_true_eq]
  exact ⟨h0, h1⟩
theorem qc_inI {c : Int32} {n : Nat} (h0 : 0 ≤ c.toInt) (h1 : c.toInt < n) : vp_in c n := vp_in_iff.mpr ⟨h0, h1⟩
theorem qc_inN {j n : Nat} (h : j < n) (hn : n < 2 ^ 31) : vp_in (nI j) n := vp_in_nI h hn
theorem qc_clN {j : Nat} (h : j < 2 ^ 31) : (nI j).toNatClampNeg = j := nI_clamp h
theorem qc_inb_of {i : Int32} {n : Nat} (h : qc_inb i n = true) (hn : n < 2 ^ 31) : ∃ j : Nat, j < n ∧ i = nI j := vp_in_of (qc_inb_in h) hn
theorem qc_inb_nI {j n : Nat} (h : j < n) (hn : n < 2 ^ 31) : qc_inb (nI j) n = true := qc_inb_iff.mpr (vp_in_nI h hn)
/-- fewer locals, in another order -/
theorem qc_pick_map (f : Nat → Nat) (lv : List (Nat × Value)) (ks : List Nat) : lv_pick (lv.map (qc_cp f)) ks = (lv_pick lv ks).map (qc_cp f) := by
  unfold lv_pick
  induction ks with
  | nil => rfl
  | cons k r ih =>
    rw [List.filterMap_cons, List.filterMap_cons, List.getElem?_map]
    cases lv[k]? with
    | none => simpa using ih
    | some x => simpa using ih
theorem qc_sub {R : Room} {mi : qcI} {QQ : qcQ} {cu su : Nat} {w : qcW} {pc : Nat} {lv lv' : List (Nat × Value)} {st : List Value} {M : qcM} (ks : List Nat) (h : lv_pick lv ks = lv') (k : qc_X R mi QQ cu su w (pc, lv', st, M)) : qc_X R mi QQ cu su w (pc, lv, st, M) := by
  intro p l e s m args below meth c0 g H locs ls C D S L
  exact k p l e s m args below meth c0 g H locs ls C D S (lv_sub L ks (by rw [qc_pick_map]; exact congrArg _ h))
theorem qc_ti {x : Int32} {j : Nat} (hx : x = nI j) (hj : j < 2 ^ 31) : x.toInt = (j : Int) := by rw [hx]; exact nI_toInt hj
theorem qc_tc1 {x : Int32} {j : Nat} (hx : x = nI j) (hj : j < 2 ^ 31) : x.toNatClampNeg = j := by rw [hx]; exact nI_clamp hj
theorem qc_s1x {x : Int32} {j : Nat} (hx : x = nI j) : x + 1 = nI (j + 1) := by rw [hx]; exact nI_1 j
/-- the least place from k on where p holds; where there is none within f, the end -/
def qc_lsf (p : Nat → Bool) : Nat → Nat → Nat
  | 0, k => k
  | f + 1, k => cond (p k) k (qc_lsf p f (k + 1))
def qc_ls (p : Nat → Bool) (n : Nat) : Nat := qc_lsf p n 0
theorem qc_lsf_eq {p : Nat → Bool} : ∀ (f k j : Nat), k ≤ j → j ≤ k + f → (∀ d, k ≤ d → d < j → p d = false) → (j = k + f ∨ p j = true) → qc_lsf p f k = j
  | 0, k, j, h1, h2, _, _ => by
    unfold qc_lsf
    omega
  | f + 1, k, j, h1, h2, h3, h4 => by
    unfold qc_lsf
    by_cases e : k = j
    · subst e
      have : p k = true := by
        rcases h4 with h4 | h4
        · omega
        · exact h4
      rw [this]
      rfl
    · rw [h3 k (Nat.le_refl k) (by omega)]
      exact qc_lsf_eq f (k + 1) j (by omega) (by omega) (fun d h5 h6 => h3 d (by omega) h6) (by
        rcases h4 with h4 | h4
        · exact Or.inl (by omega)
        · exact Or.inr h4)
theorem qc_ls_eq {p : Nat → Bool} {n j : Nat} (h2 : j ≤ n) (h3 : ∀ d, d < j → p d = false) (h4 : j = n ∨ p j = true) : qc_ls p n = j := qc_lsf_eq n 0 j (Nat.zero_le _) (by omega) (fun d _ h => h3 d h) (by
  rcases h4 with h4 | h4
  · exact Or.inl (by omega)
  · exact Or.inr h4)
def qc_cnt (p : Nat → Bool) : Nat → Nat
  | 0 => 0
  | n + 1 => qc_cnt p n + cond (p n) 1 0
theorem qc_cnt_le (p : Nat → Bool) : ∀ n, qc_cnt p n ≤ n
  | 0 => Nat.le_refl 0
  | n + 1 => by
    have := qc_cnt_le p n
    unfold qc_cnt
    cases p n <;> simp <;> omega
theorem qc_i32 {x c : Int32} {n : Int} (h : x.toInt = n) (hc : c.toInt = n) : x = c := Int32.toInt_inj.mp (h.trans hc.symm)
theorem qc_sw {R : Room} {mi : qcI} {QQ : qcQ} {cu su : Nat} {w : qcW} {pc pc' a b : Nat} {v : Value} {lv : List (Nat × Value)} {st : List Value} {M : qcM} {d0 lo hi : Int} {offs : Array Int} {x : Int32} (n : Nat) (hd : qc_d mi (pc, pc', .tableswitch d0 lo hi offs, a, b, v)) (hn : offs.size = n) (hh : hi = lo + n - 1)
    (k1 : ∀ j : Nat, j < n → x.toInt = lo + j → ∃ tgt : Nat, (offs[j]?).map (fun o => (pc : Int) + o) = some (tgt : Int) ∧ qc_X R mi QQ cu su w (tgt, lv, st, M)) (k2 : (x.toInt < lo ∨ hi < x.toInt) → ∃ tgt : Nat, (pc : Int) + d0 = tgt ∧ qc_X R mi QQ cu su w (tgt, lv, st, M)) : qc_X R mi QQ cu su w (pc, lv, .int x :: st, M) := by
  by_cases h : x.toInt < lo ∨ hi < x.toInt
  · obtain ⟨t, h1, h2⟩ := k2 h
    exact qc_tabOut hd h h1 h2
  · obtain ⟨j, hj⟩ : ∃ j : Nat, x.toInt = lo + j := ⟨(x.toInt - lo).toNat, by omega⟩
    obtain ⟨t, h1, h2⟩ := k1 j (by omega) hj
    cases ho : offs[j]? with
    | none => rw [ho] at h1; cases h1
    | some off =>
      rw [ho] at h1
      exact qc_tabIn hd j hj (by omega) ho (Option.some.inj h1) h2
theorem qc_ix {xr x : Int32} {r j : Nat} (h1 : xr = nI r) (h2 : x = nI j) : xr * 16 + x = nI (r * 16 + j) := by
  rw [h1, h2, show (16 : Int32) = nI 16 from rfl, pk_mul, nI_add]
def qc_fill {α : Type} (f : Nat → Nat → α) (a lo n : Nat) (x : α) : Nat → Nat → α := fun b j => if b = a then (if lo ≤ j ∧ j < lo + n then x else f b j) else f b j
theorem qc_fill_0 {α : Type} (f : Nat → Nat → α) (a lo : Nat) (x : α) : qc_fill f a lo 0 x = f := by
  funext b j
  unfold qc_fill
  split
  · rw [if_neg (by omega)]
  · rfl
theorem qc_fill_s {α : Type} (f : Nat → Nat → α) (a lo n : Nat) (x : α) : qc_u (qc_fill f a lo n x) a (lo + n) x = qc_fill f a lo (n + 1) x := by
  funext b j
  unfold qc_u qc_fill
  by_cases hb : b = a
  · rw [if_pos hb, if_pos hb, if_pos hb]
    by_cases hj : j = lo + n
    · rw [if_pos hj, if_pos (by omega)]
    · rw [if_neg hj]
      by_cases h2 : lo ≤ j ∧ j < lo + n
      · rw [if_pos h2, if_pos (by omega)]
      · rw [if_neg h2, if_neg (by omega)]
  · rw [if_neg hb, if_neg hb, if_neg hb]
theorem qc_lc_lt (x y : Int64) : lg_cmp x y < 0 ↔ x < y := by
  unfold lg_cmp
  by_cases h : x > y
  · simp only [h, if_true]
    exact ⟨fun q => absurd q (by decide), fun q => absurd (Int64.lt_trans q h) (Int64.lt_irrefl)⟩
  · by_cases h2 : x = y
    · simp only [h, h2, if_true]
      simp [Int64.lt_irrefl]
    · simp only [h, h2, if_false]
      refine ⟨fun _ => ?_, fun _ => by decide⟩
      rcases Int64.lt_or_eq_of_le (Int64.not_lt.mp h) with q | q
      · exact q
      · exact absurd q h2
theorem qc_lc_gt (x y : Int64) : 0 < lg_cmp x y ↔ y < x := by
  unfold lg_cmp
  by_cases h : y < x
  · rw [if_pos h]
    exact ⟨fun _ => h, fun _ => by decide⟩
  · rw [if_neg h]
    by_cases h2 : x = y
    · rw [if_pos h2]
      exact ⟨fun q => absurd q (by decide), fun q => absurd q h⟩
    · rw [if_neg h2]
      exact ⟨fun q => absurd q (by decide), fun q => absurd q h⟩
theorem qc_lc_eq (x y : Int64) : lg_cmp x y = 0 ↔ x = y := by
  unfold lg_cmp
  by_cases h : y < x
  · rw [if_pos h]
    refine ⟨fun q => absurd q (by decide), fun q => ?_⟩
    subst q
    exact absurd h Int64.lt_irrefl
  · rw [if_neg h]
    by_cases h2 : x = y
    · rw [if_pos h2]
      exact ⟨fun _ => h2, fun _ => rfl⟩
    · rw [if_neg h2]
      exact ⟨fun q => absurd q (by decide), fun q => absurd q h2⟩
theorem qc_lc_le (x y : Int64) : lg_cmp x y ≤ 0 ↔ x ≤ y := by
  rw [← Int32.not_lt, qc_lc_gt, Int64.not_lt]
theorem qc_lc_ge (x y : Int64) : 0 ≤ lg_cmp x y ↔ y ≤ x := by
  rw [← Int32.not_lt, qc_lc_lt, Int64.not_lt]
