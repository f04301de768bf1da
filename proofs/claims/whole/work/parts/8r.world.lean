/-! one act, as a step from one pair of memories to the next -/
theorem qx_self {α : Type} {f : Nat → Nat → α} {a k : Nat} {x : α} (h : f a k = x) : qc_u f a k x = f := by
  funext b j
  unfold qc_u
  split
  · split
    · rename_i h1 h2
      rw [h1, h2, h]
    · rfl
  · rfl
/-- what was set is taken back, the last first -/
def qx_un {α : Type} : Nat → (Nat → Int32) → (Nat → α) → (Nat → α) → (Nat → α)
  | 0, _, _, f => f
  | m + 1, ix, old, f => qx_un m ix old (qi_up f (Int32.toNatClampNeg (ix m)) (old m))
theorem qx_un_co {α : Type} : ∀ (m : Nat) {ix ix' : Nat → Int32} {old old' : Nat → α} (f : Nat → α), (∀ j, j < m → ix' j = ix j ∧ old' j = old j) → qx_un m ix' old' f = qx_un m ix old f
  | 0, _, _, _, _, _, _ => rfl
  | m + 1, ix, ix', old, old', f, h => by
    unfold qx_un
    obtain ⟨e1, e2⟩ := h m (Nat.lt_succ_self m)
    rw [e1, e2]
    exact qx_un_co m _ (fun j hj => h j (Nat.lt_succ_of_lt hj))
theorem qi_up_up {α : Type} (f : Nat → α) (k : Nat) (x : α) : qi_up (qi_up f k x) k (f k) = f := by
  funext j
  unfold qi_up
  split
  · rename_i h
    rw [h]
  · rfl
theorem qx_un_s {α : Type} {m t : Nat} {ix : Nat → Int32} {old f g : Nat → α} (ht : t < 2 ^ 31) (hg : g = f ∨ ∃ v, g = qi_up f t v) : qx_un (m + 1) (qi_up ix m (nI t)) (qi_up old m (f t)) g = qx_un m ix old f := by
  show qx_un m _ _ (qi_up g (Int32.toNatClampNeg (qi_up ix m (nI t) m)) (qi_up old m (f t) m)) = _
  rw [qi_up_at, qi_up_at, nI_clamp ht]
  rw [show qi_up g t (f t) = f by
    rcases hg with rfl | ⟨v, rfl⟩
    · exact qi_up_self _ _
    · exact qi_up_up _ _ _]
  exact qx_un_co m f (fun j hj => ⟨qi_up_ne _ _ (by omega), qi_up_ne _ _ (by omega)⟩)
def qx_cols (C S : qcM) : Prop := qi_cols (C.1 258) (S.1 292) (C.1 259) (S.1 293) (C.1 260) (S.1 294) (C.2.1 261) (S.2.1 295) (C.2.2.1 262) (S.2.2.1 296)
/-- the cells, and how they were: L0 D0 with the class, L1 D1 with the reference; rc: the row that was kept -/
def qx_W (L0 : Nat → Int64) (D0 : Nat → UInt64) (L1 : Nat → Int64) (D1 : Nat → UInt64) (rc : Int32) (m : Nat) (C S : qcM) : Prop :=
  qx_cols C S ∧ m ≤ 16 ∧ S.1 291 73 = nI m ∧ (∀ j, j < m → qc_inb (S.1 330 j) 176 = true) ∧ qx_un m (S.1 330) (S.2.1 331) (S.2.1 295) = L1 ∧ qx_un m (S.1 330) (S.2.2.1 332) (S.2.2.1 296) = D1 ∧
  ∀ k, (∀ i t : Nat, rc = nI i → i < 10 → t < 16 → k ≠ i * 16 + t) → C.2.1 261 k = L0 k ∧ C.2.2.1 262 k = D0 k
theorem qx_W_co {L0 : Nat → Int64} {D0 : Nat → UInt64} {L1 : Nat → Int64} {D1 : Nat → UInt64} {rc : Int32} {m : Nat} {C S C' S' : qcM} (h : qx_W L0 D0 L1 D1 rc m C S) (h1 : C'.1 258 = C.1 258) (h2 : C'.1 259 = C.1 259) (h3 : C'.1 260 = C.1 260) (h4 : C'.2.1 261 = C.2.1 261) (h5 : C'.2.2.1 262 = C.2.2.1 262)
    (g1 : S'.1 292 = S.1 292) (g2 : S'.1 293 = S.1 293) (g3 : S'.1 294 = S.1 294) (g4 : S'.2.1 295 = S.2.1 295) (g5 : S'.2.2.1 296 = S.2.2.1 296) (g6 : S'.1 330 = S.1 330) (g7 : S'.2.1 331 = S.2.1 331) (g8 : S'.2.2.1 332 = S.2.2.1 332) (g9 : S'.1 291 73 = S.1 291 73) : qx_W L0 D0 L1 D1 rc m C' S' := by
  unfold qx_W qx_cols at h ⊢
  rw [h1, h2, h3, h4, h5, g1, g2, g3, g4, g5, g6, g7, g8, g9]
  exact h
def qx_pl (t : List Nat) (C S : qcM) : Prop := C.1 287 2 = nI t.length ∧ S.1 291 67 = nI t.length ∧ qp_R t (C.2.1 288) (C.2.2.1 289) (S.2.1 328) (S.2.2.1 329)
def qx_N (S : qcM) : Prop := ∀ k, k < 32 → qc_n64 (S.2.2.1 329 k) = true
def qx_fc1 (C C' : qcM) : Prop := (∀ a k, ¬ (a = 287 ∧ k = 2) → C'.1 a k = C.1 a k) ∧ (∀ a, a ≠ 288 → a ≠ 261 → C'.2.1 a = C.2.1 a) ∧ (∀ a, a ≠ 289 → a ≠ 262 → C'.2.2.1 a = C.2.2.1 a) ∧ C'.2.2.2 = C.2.2.2
def qx_fs1 (S S' : qcM) : Prop := (∀ a k, ¬ (a = 291 ∧ (k = 67 ∨ k = 69 ∨ k = 73)) → a ≠ 330 → S'.1 a k = S.1 a k) ∧ (∀ a, a ≠ 328 → a ≠ 331 → a ≠ 295 → S'.2.1 a = S.2.1 a) ∧ (∀ a, a ≠ 329 → a ≠ 332 → a ≠ 296 → S'.2.2.1 a = S.2.2.1 a) ∧ S'.2.2.2 = S.2.2.2
section
variable {w : qcW} {C S : qcM} {o a : Int32} {L0 : Nat → Int64} {D0 : Nat → UInt64} {L1 : Nat → Int64} {D1 : Nat → UInt64} {rc : Int32} {m : Nat}
/-- one act of both -/
def qx_T (w : qcW) (L0 : Nat → Int64) (D0 : Nat → UInt64) (L1 : Nat → Int64) (D1 : Nat → UInt64) (rc : Int32) (m : Nat) (o a : Int32) (t : List Nat) (C S : qcM) : Prop :=
  ∃ (f : Int32) (C' S' : qcM) (m' : Nat), fX4_step w C.1 C.2.1 C.2.2.1 C.2.2.2 o a = some (f, C') ∧ fX12_does w S.1 S.2.1 S.2.2.1 S.2.2.2 o a = some ((), S') ∧ S'.1 291 69 = f ∧ 0 ≤ f.toInt ∧ qx_fc1 C C' ∧ qx_fs1 S S' ∧ qx_N S' ∧ qx_W L0 D0 L1 D1 rc m' C' S' ∧ (m' = m ∨ (m' = m + 1 ∧ ∃ l, l < 8 ∧ o = nI (20 + l))) ∧ (f = 0 → qx_pl t C' S')
theorem qx_ofS {h : Nat} {t : List Nat} (hc : C.1 287 2 = nI h) (hs : S.1 291 67 = nI h) (h69 : S.1 291 69 = 0) (hW : qx_W L0 D0 L1 D1 rc m C S) (hS : qp_S w C.1 C.2.1 C.2.2.1 C.2.2.2 S.1 S.2.1 S.2.2.1 S.2.2.2 o a h (C.2.1 288) (C.2.2.1 289) (S.2.1 328) (S.2.2.1 329) t) : qx_T w L0 D0 L1 D1 rc m o a t C S := by
  obtain ⟨f, h1, t1, pc', xc', pm', xm', e1, e2, e3, e4, e5⟩ := hS
  rw [qx_self hc, qi_rr_0, qi_rr_0] at e1
  rw [qx_self hs, qi_rr_0, qi_rr_0] at e2
  have k0 : ∀ a k, ¬ (a = 291 ∧ (k = 67 ∨ k = 69 ∨ k = 73)) → (if f = 0 then qc_u S.1 291 67 (nI t1) else qc_u (qc_u S.1 291 67 (nI t1)) 291 69 f) a k = S.1 a k := by
    intro a k hk
    have n1 : a ≠ 291 ∨ k ≠ 67 := by omega
    have n2 : a ≠ 291 ∨ k ≠ 69 := by omega
    split
    · exact qc_u_ne _ _ n1
    · rw [qc_u_ne _ _ n2, qc_u_ne _ _ n1]
  have k1 : ∀ a, a ≠ 291 → (if f = 0 then qc_u S.1 291 67 (nI t1) else qc_u (qc_u S.1 291 67 (nI t1)) 291 69 f) a = S.1 a := fun a ha => funext fun k => k0 a k (by omega)
  have k73 : (if f = 0 then qc_u S.1 291 67 (nI t1) else qc_u (qc_u S.1 291 67 (nI t1)) 291 69 f) 291 73 = S.1 291 73 := by
    split
    · exact qc_u_ne _ _ (Or.inr (by decide))
    · rw [qc_u_ne _ _ (Or.inr (by decide)), qc_u_ne _ _ (Or.inr (by decide))]
  refine ⟨f, (_, _, _, _), (_, _, _, _), m, e1, e2, ?_, e4, ⟨?_, ?_, ?_, rfl⟩, ⟨fun a k ha _ => k0 a k ha, ?_, ?_, rfl⟩, ?_, ?_, Or.inl rfl, fun hf => ?_⟩
  · show (if f = 0 then qc_u S.1 291 67 (nI t1) else qc_u (qc_u S.1 291 67 (nI t1)) 291 69 f) 291 69 = f
    split
    · rename_i q
      rw [qc_u_ne _ _ (Or.inr (by decide)), h69, q]
    · exact qc_u_at _ _ _ _
  · intro a k hk
    exact qc_u_ne _ _ (by omega)
  · intro a ha _
    exact qi_rr_off _ _ ha
  · intro a ha _
    exact qi_rr_off _ _ ha
  · intro a ha _ _
    exact qi_rr_off _ _ ha
  · intro a ha _ _
    exact qi_rr_off _ _ ha
  · intro k hk
    show qc_n64 (qi_rr S.2.2.1 329 xm' 329 k) = true
    rw [qi_rr_on]
    exact e5 k hk
  · refine qx_W_co hW ?_ ?_ ?_ ?_ ?_ ?_ ?_ ?_ ?_ ?_ ?_ ?_ ?_ k73
    · show qc_u C.1 287 2 (nI h1) 258 = _
      exact qc_u_off _ _ (by decide)
    · show qc_u C.1 287 2 (nI h1) 259 = _
      exact qc_u_off _ _ (by decide)
    · show qc_u C.1 287 2 (nI h1) 260 = _
      exact qc_u_off _ _ (by decide)
    · dsimp only
      exact qi_rr_off _ _ (show 261 ≠ 288 by decide)
    · dsimp only
      exact qi_rr_off _ _ (show 262 ≠ 289 by decide)
    · exact k1 _ (by decide)
    · exact k1 _ (by decide)
    · exact k1 _ (by decide)
    · dsimp only
      exact qi_rr_off _ _ (show 295 ≠ 328 by decide)
    · dsimp only
      exact qi_rr_off _ _ (show 296 ≠ 329 by decide)
    · exact k1 _ (by decide)
    · dsimp only
      exact qi_rr_off _ _ (show 331 ≠ 328 by decide)
    · dsimp only
      exact qi_rr_off _ _ (show 332 ≠ 329 by decide)
  · obtain ⟨q1, q2, q3⟩ := e3 hf
    refine ⟨?_, ?_, ?_⟩
    · show qc_u C.1 287 2 (nI h1) 287 2 = _
      rw [qc_u_at, q1]
    · show (if f = 0 then qc_u S.1 291 67 (nI t1) else qc_u (qc_u S.1 291 67 (nI t1)) 291 69 f) 291 67 = _
      rw [if_pos hf, qc_u_at, q2]
    · show qp_R t (qi_rr C.2.1 288 pc' 288) (qi_rr C.2.2.1 289 xc' 289) (qi_rr S.2.1 328 pm' 328) (qi_rr S.2.2.1 329 xm' 329)
      rw [qi_rr_on, qi_rr_on, qi_rr_on, qi_rr_on]
      exact q3
end
