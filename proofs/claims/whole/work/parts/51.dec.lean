/-! functions of methods: none where an index, a kind or a number would be wrong -/
abbrev qTI : Type := Nat → Nat → Int32
abbrev qTL : Type := Nat → Nat → Int64
abbrev qTD : Type := Nat → Nat → UInt64
abbrev qTR : Type := Nat → Nat → Nat
abbrev qcO (ρ : Type) : Type := Option (ρ × qTI × qTL × qTD × qTR)
def qc_gd {α : Type} (b : Bool) (x : Option α) : Option α := cond b x none
theorem qc_gd_of {α : Type} {b : Bool} {x : Option α} {y : α} (h : qc_gd b x = some y) : b = true ∧ x = some y := by
  cases b
  · cases h
  · exact ⟨rfl, h⟩
def qc_bd {ρ α : Type} (x : qcO ρ) (k : ρ → qTI → qTL → qTD → qTR → Option α) : Option α := match x with
  | none => none
  | some (r, I, L, D, R) => k r I L D R
theorem qc_bd_of {ρ α : Type} {x : qcO ρ} {k : ρ → qTI → qTL → qTD → qTR → Option α} {y : α} (h : qc_bd x k = some y) : ∃ r I L D R, x = some (r, I, L, D, R) ∧ k r I L D R = some y := by
  match x, h with
  | none, h => cases h
  | some (r, I, L, D, R), h => exact ⟨r, I, L, D, R, rfl, h⟩
theorem qc_some5 {ρ : Type} {r r' : ρ} {I I' : qTI} {L L' : qTL} {D D' : qTD} {R R' : qTR} (h : (some (r, I, L, D, R) : qcO ρ) = some (r', I', L', D', R')) : r' = r ∧ I' = I ∧ L' = L ∧ D' = D ∧ R' = R := by
  injection h with h
  injection h with h1 h
  injection h with h2 h
  injection h with h3 h
  injection h with h4 h5
  exact ⟨h1.symm, h2.symm, h3.symm, h4.symm, h5.symm⟩
/-- a loop with so many rounds at most -/
def qc_lp {σ ρ : Type} (b : (σ → qcO ρ) → σ → qcO ρ) : Nat → σ → qcO ρ
  | 0 => fun _ => none
  | n + 1 => b (qc_lp b n)
def qcF : Nat := 4096
theorem qc_jp {c : Prop} [i : Decidable c] {α : Type} {t e x : α} (hc : c) (h : (if c then t else e) = x) : t = x := by rw [if_pos hc] at h; exact h
theorem qc_jn {c : Prop} [i : Decidable c] {α : Type} {t e x : α} (hc : ¬ c) (h : (if c then t else e) = x) : e = x := by rw [if_neg hc] at h; exact h
theorem qc_jt {b : Bool} {α : Type} {t e x : α} (hc : b = true) (h : (if b = true then t else e) = x) : t = x := by rw [if_pos hc] at h; exact h
theorem qc_jf {b : Bool} {α : Type} {t e x : α} (hc : b = false) (h : (if b = true then t else e) = x) : e = x := by rw [if_neg (by rw [hc]; decide)] at h; exact h
theorem qc_andC {c P A B X : Prop} (f : (c → A) → (¬ c → B) → X) (h1 : c → P ∧ A) (h2 : ¬ c → P ∧ B) : P ∧ X :=
  ⟨(Classical.em c).elim (fun h => (h1 h).1) (fun h => (h2 h).1), f (fun h => (h1 h).2) (fun h => (h2 h).2)⟩
theorem qc_andN {c P A B X : Prop} (f : (¬ c → A) → (c → B) → X) (h1 : ¬ c → P ∧ A) (h2 : c → P ∧ B) : P ∧ X :=
  ⟨(Classical.em c).elim (fun h => (h2 h).1) (fun h => (h1 h).1), f (fun h => (h1 h).2) (fun h => (h2 h).2)⟩
theorem qc_andB {b : Bool} {P A B X : Prop} (f : (b = false → A) → (b = true → B) → X) (h1 : b = false → P ∧ A) (h2 : b = true → P ∧ B) : P ∧ X :=
  ⟨(match b, h1, h2 with | false, h1, _ => (h1 rfl).1 | true, _, h2 => (h2 rfl).1), f (fun h => (h1 h).2) (fun h => (h2 h).2)⟩
theorem qc_andBn {b : Bool} {P A B X : Prop} (f : (b = true → A) → (b = false → B) → X) (h1 : b = true → P ∧ A) (h2 : b = false → P ∧ B) : P ∧ X :=
  ⟨(match b, h1, h2 with | false, _, h2 => (h2 rfl).1 | true, h1, _ => (h1 rfl).1), f (fun h => (h1 h).2) (fun h => (h2 h).2)⟩
theorem qc_by {c X : Prop} (h1 : c → X) (h2 : ¬ c → X) : X := (Classical.em c).elim h1 h2
/-- what a call leaves alone: the final references, the rows of the other side -/
def qc_fm (s : Nat → Bool) (M M' : qcM) : Prop := (qc_FR M.2.2.2 → qc_FR M'.2.2.2) ∧ ∀ a, s a = false → M'.1 a = M.1 a ∧ M'.2.1 a = M.2.1 a ∧ M'.2.2.1 a = M.2.2.1 a ∧ M'.2.2.2 a = M.2.2.2 a
def qcSX (a : Nat) : Bool := Nat.blt a 291
def qcSM (a : Nat) : Bool := Nat.ble 291 a && Nat.blt a 338
theorem qc_fm.rf {s : Nat → Bool} (M : qcM) : qc_fm s M M := ⟨id, fun _ _ => ⟨rfl, rfl, rfl, rfl⟩⟩
theorem qc_fm.tr {s : Nat → Bool} {M M1 M2 : qcM} (h : qc_fm s M M1) (h2 : qc_fm s M1 M2) : qc_fm s M M2 :=
  ⟨fun x => h2.1 (h.1 x), fun a ha => ⟨(h2.2 a ha).1.trans (h.2 a ha).1, (h2.2 a ha).2.1.trans (h.2 a ha).2.1, (h2.2 a ha).2.2.1.trans (h.2 a ha).2.2.1, (h2.2 a ha).2.2.2.trans (h.2 a ha).2.2.2⟩⟩
theorem qc_s_ne {s : Nat → Bool} {a b : Nat} (h : s a = true) (hb : s b = false) : b ≠ a := fun e => by rw [e, h] at hb; cases hb
section
variable {s : Nat → Bool} {I : qTI} {L : qTL} {D : qTD} {R : qTR} {M' : qcM} {a k : Nat}
theorem qc_fm.uI {x : Int32} (hs : s a = true) (h : qc_fm s (qc_u I a k x, L, D, R) M') : qc_fm s (I, L, D, R) M' :=
  qc_fm.tr (M1 := (qc_u I a k x, L, D, R)) ⟨id, fun _ hb => ⟨qc_u_off I x (qc_s_ne hs hb), rfl, rfl, rfl⟩⟩ h
theorem qc_fm.uL {x : Int64} (hs : s a = true) (h : qc_fm s (I, qc_u L a k x, D, R) M') : qc_fm s (I, L, D, R) M' :=
  qc_fm.tr (M1 := (I, qc_u L a k x, D, R)) ⟨id, fun _ hb => ⟨rfl, qc_u_off L x (qc_s_ne hs hb), rfl, rfl⟩⟩ h
theorem qc_fm.uD {x : UInt64} (hs : s a = true) (h : qc_fm s (I, L, qc_u D a k x, R) M') : qc_fm s (I, L, D, R) M' :=
  qc_fm.tr (M1 := (I, L, qc_u D a k x, R)) ⟨id, fun _ hb => ⟨rfl, rfl, qc_u_off D x (qc_s_ne hs hb), rfl⟩⟩ h
theorem qc_fm.uR {x : Nat} (hs : s a = true) (hf : qc_frL.all (fun q => !(Nat.beq q.1 a && Nat.beq q.2.1 k)) = true) (h : qc_fm s (I, L, D, qc_u R a k x) M') : qc_fm s (I, L, D, R) M' :=
  qc_fm.tr (M1 := (I, L, D, qc_u R a k x)) ⟨fun q => qc_FR.u q x hf, fun _ hb => ⟨rfl, rfl, rfl, qc_u_off R x (qc_s_ne hs hb)⟩⟩ h
theorem qc_fra {a : Nat} (hf : qc_frL.all (fun q => !(Nat.beq q.1 a)) = true) (k : Nat) : qc_frL.all (fun q => !(Nat.beq q.1 a && Nat.beq q.2.1 k)) = true := by
  rw [List.all_eq_true] at hf ⊢
  intro q hq
  have h := hf q hq
  cases e : Nat.beq q.1 a
  · rfl
  · rw [e] at h; cases h
theorem qc_FR.ua {R : qTR} (h : qc_FR R) {a : Nat} (k x : Nat) (hf : qc_frL.all (fun q => !(Nat.beq q.1 a)) = true) : qc_FR (qc_u R a k x) := qc_FR.u h x (qc_fra hf k)
end
/-! guards -/
theorem qc_beqF {x y : Nat} (h : x ≠ y) : Nat.beq x y = false := by
  cases e : Nat.beq x y
  · rfl
  · exact absurd (Nat.eq_of_beq_eq_true e) h
def qc_l62 (x : Nat) : Bool := Nat.blt x 62
theorem qc_l62_of {x : Nat} (h : qc_l62 x = true) : x < 62 := Nat.blt_eq.mp h
theorem qc_ne62 {x : Nat} (h : x < 62) : Nat.beq x 255 = false := qc_beqF (by omega)
def qc_io (w : qcW) (x ci : Nat) : Bool := Nat.blt ci 11 && Nat.ble 256 x && Nat.blt x w.1 && Nat.beq (w.2.1 x) ci
theorem qc_io_of {w : qcW} {x ci : Nat} (h : qc_io w x ci = true) : qc_ki w x ci := by
  unfold qc_io at h
  simp only [Bool.and_eq_true, Nat.blt_eq, Nat.ble_eq, Nat.beq_eq] at h
  exact ⟨h.1.1.1, h.1.1.2, h.1.2, Or.inl h.2⟩
theorem qc_ki255 {w : qcW} {x ci : Nat} (h : qc_ki w x ci) : Nat.beq x 255 = false := qc_beqF (by have := h.2.1; omega)
def qc_ia (w : qcW) (x kd : Nat) : Bool := Nat.ble 256 x && Nat.blt x w.1 && Nat.beq (w.2.1 x) kd
theorem qc_ia_of {w : qcW} {x kd : Nat} (h : qc_ia w x kd = true) : qc_ka w x kd (w.2.2 x) := by
  unfold qc_ia at h
  simp only [Bool.and_eq_true, Nat.blt_eq, Nat.ble_eq, Nat.beq_eq] at h
  exact ⟨h.1.1, h.1.2, Or.inl ⟨h.2, rfl⟩⟩
theorem qc_ka255 {w : qcW} {x kd n : Nat} (h : qc_ka w x kd n) : Nat.beq x 255 = false := qc_beqF (by have := h.1; omega)
def qc_nz {α : Type} [DecidableEq α] [OfNat α 0] (y : α) : Bool := !decide (y = 0)
theorem qc_nz_of {α : Type} [DecidableEq α] [OfNat α 0] {y : α} (h : qc_nz y = true) : ¬ y = 0 := by
  unfold qc_nz at h
  intro e
  rw [decide_eq_true e] at h
  cases h
def qc_n64 (r : UInt64) : Bool := decide (r &&& 0x7fffffffffffffff ≤ 0x7ff0000000000000)
theorem qc_n64_of {r : UInt64} (h : qc_n64 r = true) : vf_n64 r := by
  unfold qc_n64 at h
  unfold vf_n64
  exact of_decide_eq_true h
def qc_n32 (r : UInt32) : Bool := decide (r &&& 0x7fffffff ≤ 0x7f800000)
theorem qc_n32_of {r : UInt32} (h : qc_n32 r = true) : vf_n32 r := by
  unfold qc_n32 at h
  unfold vf_n32
  exact of_decide_eq_true h
def qc_01 (x : Int32) : Bool := decide (x = 0) || decide (x = 1)
theorem qc_01_of {x : Int32} (h : qc_01 x = true) : x = 0 ∨ x = 1 := by
  unfold qc_01 at h
  rw [Bool.or_eq_true, decide_eq_true_eq, decide_eq_true_eq] at h
  exact h
def qc_isT (x : Int32) : Bool := decide (x = 1)
theorem qc_isT_b {x : Int32} (h : qc_01 x = true) : qc_b (qc_isT x) = x := by rcases qc_01_of h with rfl | rfl <;> rfl
theorem qc_rv_ki {w : qcW} {x ci : Nat} (h : qc_ki w x ci) : qc_rv x = .ref x := by unfold qc_rv; rw [qc_ki255 h]; rfl
theorem qc_rv_n {x : Nat} (h : Nat.beq x 255 = true) : qc_rv x = .null := by unfold qc_rv; rw [h]; rfl
theorem qc_kaf {w : qcW} (hn : qcNF ≤ w.1) {a kd n : Nat} (h : (Nat.ble 256 a && Nat.blt a qcNF && Nat.beq (qc_kd a) kd && Nat.beq (qc_ln a) n) = true) : qc_ka w a kd n := by
  simp only [Bool.and_eq_true, Nat.blt_eq, Nat.ble_eq, Nat.beq_eq] at h
  exact ⟨h.1.1.1, Nat.lt_of_lt_of_le h.1.1.2 hn, Or.inr ⟨h.1.1.2, h.1.2, h.2⟩⟩
theorem qc_rml {d e ml : Nat} (h : d ≤ e) (hm : ml ≤ 45) : d + 1 ≤ (qc_rm (e + 1) 0 0).frames ∧ 8 + (ml + 11) + 64 * d ≤ (qc_rm (e + 1) 0 0).locals := ⟨by show d + 1 ≤ e + 1; omega, by show 8 + (ml + 11) + 64 * d ≤ 64 * (e + 1); omega⟩
/-! rules over both: what is left alone, and the judgement -/
section
variable {s : Nat → Bool} {M' : qcM} {R0 : Room} {mi : qcI} {QQ : qcQ} {cu su : Nat} {w : qcW} {pc pc' : Nat} {lv : List (Nat × Value)} {st : List Value} {I : qTI} {L : qTL} {D : qTD} {R : qTR} {a b a0 b0 : Nat} {v : Value} {NL : Nat}
theorem qd_pI {i ci k : Nat} {x : Int32} (hd : qc_d mi (pc, pc', .putfield i, ci, k, v)) (hn : NL ≤ w.1) (hb : qc_fy a NL ci k 0 = true) (hs : s a = true) (kk : qc_fm s (qc_u I a k x, L, D, R) M' ∧ qc_X R0 mi QQ cu su w (pc', lv, st, qc_u I a k x, L, D, R)) : qc_fm s (I, L, D, R) M' ∧ qc_X R0 mi QQ cu su w (pc, lv, .int x :: .ref a :: st, I, L, D, R) := ⟨kk.1.uI hs, qc_pI hd hn hb kk.2⟩
theorem qd_pId {i ci k : Nat} {x : Int32} (hd : qc_d mi (pc, pc', .putfield i, ci, k, v)) (hk : qc_ki w a ci) (hb : (Nat.blt k (qc_nf ci) && Nat.beq (qc_fz ci k % 2) 0 && cond (Nat.beq 0 4) (Nat.beq (qc_tc ci k) 0 && Nat.ble 2 (qc_fz ci k)) (Nat.beq (qc_tc ci k) 0 && Nat.ble (qc_fz ci k) 1)) = true) (hs : s a = true) (kk : qc_fm s (qc_u I a k x, L, D, R) M' ∧ qc_X R0 mi QQ cu su w (pc', lv, st, qc_u I a k x, L, D, R)) : qc_fm s (I, L, D, R) M' ∧ qc_X R0 mi QQ cu su w (pc, lv, .int x :: .ref a :: st, I, L, D, R) := ⟨kk.1.uI hs, qc_pId hd hk hb kk.2⟩
theorem qd_pL {i ci k : Nat} {x : Int64} (hd : qc_d mi (pc, pc', .putfield i, ci, k, v)) (hn : NL ≤ w.1) (hb : qc_fy a NL ci k 1 = true) (hs : s a = true) (kk : qc_fm s (I, qc_u L a k x, D, R) M' ∧ qc_X R0 mi QQ cu su w (pc', lv, st, I, qc_u L a k x, D, R)) : qc_fm s (I, L, D, R) M' ∧ qc_X R0 mi QQ cu su w (pc, lv, .long x :: .ref a :: st, I, L, D, R) := ⟨kk.1.uL hs, qc_pL hd hn hb kk.2⟩
theorem qd_pLd {i ci k : Nat} {x : Int64} (hd : qc_d mi (pc, pc', .putfield i, ci, k, v)) (hk : qc_ki w a ci) (hb : (Nat.blt k (qc_nf ci) && Nat.beq (qc_fz ci k % 2) 0 && cond (Nat.beq 1 4) (Nat.beq (qc_tc ci k) 0 && Nat.ble 2 (qc_fz ci k)) (Nat.beq (qc_tc ci k) 1 && Nat.ble (qc_fz ci k) 1)) = true) (hs : s a = true) (kk : qc_fm s (I, qc_u L a k x, D, R) M' ∧ qc_X R0 mi QQ cu su w (pc', lv, st, I, qc_u L a k x, D, R)) : qc_fm s (I, L, D, R) M' ∧ qc_X R0 mi QQ cu su w (pc, lv, .long x :: .ref a :: st, I, L, D, R) := ⟨kk.1.uL hs, qc_pLd hd hk hb kk.2⟩
theorem qd_pD {i ci k : Nat} {x : UInt64} (hd : qc_d mi (pc, pc', .putfield i, ci, k, v)) (hn : NL ≤ w.1) (hb : qc_fy a NL ci k 2 = true) (hs : s a = true) (kk : qc_fm s (I, L, qc_u D a k x, R) M' ∧ qc_X R0 mi QQ cu su w (pc', lv, st, I, L, qc_u D a k x, R)) : qc_fm s (I, L, D, R) M' ∧ qc_X R0 mi QQ cu su w (pc, lv, .double x :: .ref a :: st, I, L, D, R) := ⟨kk.1.uD hs, qc_pD hd hn hb kk.2⟩
theorem qd_pDd {i ci k : Nat} {x : UInt64} (hd : qc_d mi (pc, pc', .putfield i, ci, k, v)) (hk : qc_ki w a ci) (hb : (Nat.blt k (qc_nf ci) && Nat.beq (qc_fz ci k % 2) 0 && cond (Nat.beq 2 4) (Nat.beq (qc_tc ci k) 0 && Nat.ble 2 (qc_fz ci k)) (Nat.beq (qc_tc ci k) 2 && Nat.ble (qc_fz ci k) 1)) = true) (hs : s a = true) (kk : qc_fm s (I, L, qc_u D a k x, R) M' ∧ qc_X R0 mi QQ cu su w (pc', lv, st, I, L, qc_u D a k x, R)) : qc_fm s (I, L, D, R) M' ∧ qc_X R0 mi QQ cu su w (pc, lv, .double x :: .ref a :: st, I, L, D, R) := ⟨kk.1.uD hs, qc_pDd hd hk hb kk.2⟩
theorem qd_pR {i ci k : Nat} {x : Nat} (hd : qc_d mi (pc, pc', .putfield i, ci, k, v)) (hn : NL ≤ w.1) (hb : qc_fy a NL ci k 3 = true) (hx : Nat.beq x 255 = false) (hs : s a = true) (hf : qc_frL.all (fun q => !(Nat.beq q.1 a && Nat.beq q.2.1 k)) = true) (kk : qc_fm s (I, L, D, qc_u R a k x) M' ∧ qc_X R0 mi QQ cu su w (pc', lv, st, I, L, D, qc_u R a k x)) : qc_fm s (I, L, D, R) M' ∧ qc_X R0 mi QQ cu su w (pc, lv, .ref x :: .ref a :: st, I, L, D, R) := ⟨kk.1.uR hs hf, qc_pR hd hn hb hx kk.2⟩
theorem qd_pRd {i ci k : Nat} {x : Nat} (hd : qc_d mi (pc, pc', .putfield i, ci, k, v)) (hk : qc_ki w a ci) (hb : (Nat.blt k (qc_nf ci) && Nat.beq (qc_fz ci k % 2) 0 && cond (Nat.beq 3 4) (Nat.beq (qc_tc ci k) 0 && Nat.ble 2 (qc_fz ci k)) (Nat.beq (qc_tc ci k) 3 && Nat.ble (qc_fz ci k) 1)) = true) (hx : Nat.beq x 255 = false) (hs : s a = true) (hf : qc_frL.all (fun q => !(Nat.beq q.1 a && Nat.beq q.2.1 k)) = true) (kk : qc_fm s (I, L, D, qc_u R a k x) M' ∧ qc_X R0 mi QQ cu su w (pc', lv, st, I, L, D, qc_u R a k x)) : qc_fm s (I, L, D, R) M' ∧ qc_X R0 mi QQ cu su w (pc, lv, .ref x :: .ref a :: st, I, L, D, R) := ⟨kk.1.uR hs hf, qc_pRd hd hk hb hx kk.2⟩
theorem qd_pZ {i ci k : Nat} {x : Int32} (hd : qc_d mi (pc, pc', .putfield i, ci, k, v)) (hn : NL ≤ w.1) (hb : qc_fy a NL ci k 4 = true) (hx : x = 0 ∨ x = 1) (hs : s a = true) (kk : qc_fm s (qc_u I a k x, L, D, R) M' ∧ qc_X R0 mi QQ cu su w (pc', lv, st, qc_u I a k x, L, D, R)) : qc_fm s (I, L, D, R) M' ∧ qc_X R0 mi QQ cu su w (pc, lv, .int x :: .ref a :: st, I, L, D, R) := ⟨kk.1.uI hs, qc_pZ hd hn hb hx kk.2⟩
theorem qd_pZd {i ci k : Nat} {x : Int32} (hd : qc_d mi (pc, pc', .putfield i, ci, k, v)) (hk : qc_ki w a ci) (hb : (Nat.blt k (qc_nf ci) && Nat.beq (qc_fz ci k % 2) 0 && cond (Nat.beq 4 4) (Nat.beq (qc_tc ci k) 0 && Nat.ble 2 (qc_fz ci k)) (Nat.beq (qc_tc ci k) 4 && Nat.ble (qc_fz ci k) 1)) = true) (hx : x = 0 ∨ x = 1) (hs : s a = true) (kk : qc_fm s (qc_u I a k x, L, D, R) M' ∧ qc_X R0 mi QQ cu su w (pc', lv, st, qc_u I a k x, L, D, R)) : qc_fm s (I, L, D, R) M' ∧ qc_X R0 mi QQ cu su w (pc, lv, .int x :: .ref a :: st, I, L, D, R) := ⟨kk.1.uI hs, qc_pZd hd hk hb hx kk.2⟩
theorem qd_iast (n : Nat) {j : Int32} {x : Int32} (hd : qc_d mi (pc, pc', .iastore, a0, b0, v)) (hn : NL ≤ w.1) (hb : (Nat.ble 256 a && Nat.blt a NL && Nat.ble NL qcNF && Nat.beq (qc_kd a) 100 && Nat.beq (qc_ln a) n) = true) (hin : vp_in j n) (hs : s a = true) (kk : qc_fm s (qc_u I a j.toNatClampNeg x, L, D, R) M' ∧ qc_X R0 mi QQ cu su w (pc', lv, st, qc_u I a j.toNatClampNeg x, L, D, R)) : qc_fm s (I, L, D, R) M' ∧ qc_X R0 mi QQ cu su w (pc, lv, .int x :: .int j :: .ref a :: st, I, L, D, R) := ⟨kk.1.uI hs, qc_iast n hd hn hb hin kk.2⟩
theorem qd_iastd {n : Nat} {j : Int32} {x : Int32} (hd : qc_d mi (pc, pc', .iastore, a0, b0, v)) (ha : qc_ka w a 100 n) (hin : vp_in j n) (hs : s a = true) (kk : qc_fm s (qc_u I a j.toNatClampNeg x, L, D, R) M' ∧ qc_X R0 mi QQ cu su w (pc', lv, st, qc_u I a j.toNatClampNeg x, L, D, R)) : qc_fm s (I, L, D, R) M' ∧ qc_X R0 mi QQ cu su w (pc, lv, .int x :: .int j :: .ref a :: st, I, L, D, R) := ⟨kk.1.uI hs, qc_iastd hd ha hin kk.2⟩
theorem qd_last (n : Nat) {j : Int32} {x : Int64} (hd : qc_d mi (pc, pc', .lastore, a0, b0, v)) (hn : NL ≤ w.1) (hb : (Nat.ble 256 a && Nat.blt a NL && Nat.ble NL qcNF && Nat.beq (qc_kd a) 101 && Nat.beq (qc_ln a) n) = true) (hin : vp_in j n) (hs : s a = true) (kk : qc_fm s (I, qc_u L a j.toNatClampNeg x, D, R) M' ∧ qc_X R0 mi QQ cu su w (pc', lv, st, I, qc_u L a j.toNatClampNeg x, D, R)) : qc_fm s (I, L, D, R) M' ∧ qc_X R0 mi QQ cu su w (pc, lv, .long x :: .int j :: .ref a :: st, I, L, D, R) := ⟨kk.1.uL hs, qc_last n hd hn hb hin kk.2⟩
theorem qd_lastd {n : Nat} {j : Int32} {x : Int64} (hd : qc_d mi (pc, pc', .lastore, a0, b0, v)) (ha : qc_ka w a 101 n) (hin : vp_in j n) (hs : s a = true) (kk : qc_fm s (I, qc_u L a j.toNatClampNeg x, D, R) M' ∧ qc_X R0 mi QQ cu su w (pc', lv, st, I, qc_u L a j.toNatClampNeg x, D, R)) : qc_fm s (I, L, D, R) M' ∧ qc_X R0 mi QQ cu su w (pc, lv, .long x :: .int j :: .ref a :: st, I, L, D, R) := ⟨kk.1.uL hs, qc_lastd hd ha hin kk.2⟩
theorem qd_dast (n : Nat) {j : Int32} {x : UInt64} (hd : qc_d mi (pc, pc', .dastore, a0, b0, v)) (hn : NL ≤ w.1) (hb : (Nat.ble 256 a && Nat.blt a NL && Nat.ble NL qcNF && Nat.beq (qc_kd a) 102 && Nat.beq (qc_ln a) n) = true) (hin : vp_in j n) (hs : s a = true) (kk : qc_fm s (I, L, qc_u D a j.toNatClampNeg x, R) M' ∧ qc_X R0 mi QQ cu su w (pc', lv, st, I, L, qc_u D a j.toNatClampNeg x, R)) : qc_fm s (I, L, D, R) M' ∧ qc_X R0 mi QQ cu su w (pc, lv, .double x :: .int j :: .ref a :: st, I, L, D, R) := ⟨kk.1.uD hs, qc_dast n hd hn hb hin kk.2⟩
theorem qd_dastd {n : Nat} {j : Int32} {x : UInt64} (hd : qc_d mi (pc, pc', .dastore, a0, b0, v)) (ha : qc_ka w a 102 n) (hin : vp_in j n) (hs : s a = true) (kk : qc_fm s (I, L, qc_u D a j.toNatClampNeg x, R) M' ∧ qc_X R0 mi QQ cu su w (pc', lv, st, I, L, qc_u D a j.toNatClampNeg x, R)) : qc_fm s (I, L, D, R) M' ∧ qc_X R0 mi QQ cu su w (pc, lv, .double x :: .int j :: .ref a :: st, I, L, D, R) := ⟨kk.1.uD hs, qc_dastd hd ha hin kk.2⟩
theorem qd_aastN (t : Nat) (ht : t = 0 ∨ t = 1) {n : Nat} {j : Int32} (hd : qc_d mi (pc, pc', .aastore, a0, b0, v)) (ha : qc_ka w a (103 + t) n) (hin : vp_in j n) (hs : s a = true) (hf : qc_frL.all (fun q => !(Nat.beq q.1 a)) = true) (kk : qc_fm s (I, L, D, qc_u R a j.toNatClampNeg 255) M' ∧ qc_X R0 mi QQ cu su w (pc', lv, st, I, L, D, qc_u R a j.toNatClampNeg 255)) : qc_fm s (I, L, D, R) M' ∧ qc_X R0 mi QQ cu su w (pc, lv, .null :: .int j :: .ref a :: st, I, L, D, R) := ⟨kk.1.uR hs (qc_fra hf _), qc_aastN t ht hd ha hin kk.2⟩
end
section
variable {s : Nat → Bool} {M' M M1 : qcM} {R : Room} {mi : qcI} {QQ : qcQ} {cu su : Nat} {w w1 : qcW} {pc pc' : Nat} {lv : List (Nat × Value)} {st : List Value} {a b : Nat} {v : Value} {d mc ms : Nat} {m2 : qcI} {as as' : List Value} {n p1 p2 p3 p4 q idx ci a0 : Nat} {r : Value}
theorem qd_cSv (hd : qc_d mi (pc, pc', .invokestatic idx, a, b, v)) (hl : qc_lk2 mi.1 idx q m2.2.1 = true) (hm : qc_mf m2 1 n p1 p2 p3 p4 = true) (hV : qc_fm s M M1 ∧ qc_V d 0 0 m2 as w M (qc_eq (some r) w1 M1)) (hn : Nat.beq as.length n = true) (hs : as' = as.reverse ++ st) (hst : (st.map fun v => v.category).sum ≤ 8) (hR : d + 1 ≤ R.frames ∧ 8 + (m2.2.2.2.1 + 11) + 64 * d ≤ R.locals) (hf : cu ≤ R.cells ∧ su ≤ R.slots) (kk : qc_fm s M1 M' ∧ qc_X R mi QQ cu su w1 (pc', lv, r :: st, M1)) : qc_fm s M M' ∧ qc_X R mi QQ cu su w (pc, lv, as', M) :=
  ⟨hV.1.tr kk.1, qc_cSv hd hl hm hV.2 hn hs hst hR hf kk.2⟩
theorem qd_cSn (hd : qc_d mi (pc, pc', .invokestatic idx, a, b, v)) (hl : qc_lk2 mi.1 idx q m2.2.1 = true) (hm : qc_mf m2 1 n p1 p2 p3 p4 = true) (hV : qc_fm s M M1 ∧ qc_V d 0 0 m2 as w M (qc_eq none w1 M1)) (hn : Nat.beq as.length n = true) (hs : as' = as.reverse ++ st) (hst : (st.map fun v => v.category).sum ≤ 8) (hR : d + 1 ≤ R.frames ∧ 8 + (m2.2.2.2.1 + 11) + 64 * d ≤ R.locals) (hf : cu ≤ R.cells ∧ su ≤ R.slots) (kk : qc_fm s M1 M' ∧ qc_X R mi QQ cu su w1 (pc', lv, st, M1)) : qc_fm s M M' ∧ qc_X R mi QQ cu su w (pc, lv, as', M) :=
  ⟨hV.1.tr kk.1, qc_cSn hd hl hm hV.2 hn hs hst hR hf kk.2⟩
theorem qd_cVv (hd : qc_d mi (pc, pc', .invokevirtual idx, a, b, v)) (hl : qc_lk2 mi.1 idx q m2.2.1 = true) (hm : qc_mf m2 0 n p1 p2 p3 p4 = true) (hk : qc_ki w a0 ci) (hcl : (qc_clT ci).1 = m2.2.1.cls) (hV : qc_fm s M M1 ∧ qc_V d 0 0 m2 (.ref a0 :: as) w M (qc_eq (some r) w1 M1)) (hn : Nat.beq as.length n = true) (hs : as' = as.reverse ++ .ref a0 :: st) (hst : (st.map fun v => v.category).sum ≤ 8) (hR : d + 1 ≤ R.frames ∧ 8 + (m2.2.2.2.1 + 11) + 64 * d ≤ R.locals) (hf : cu ≤ R.cells ∧ su ≤ R.slots) (kk : qc_fm s M1 M' ∧ qc_X R mi QQ cu su w1 (pc', lv, r :: st, M1)) : qc_fm s M M' ∧ qc_X R mi QQ cu su w (pc, lv, as', M) :=
  ⟨hV.1.tr kk.1, qc_cVv hd hl hm hk hcl hV.2 hn hs hst hR hf kk.2⟩
theorem qd_cVn (hd : qc_d mi (pc, pc', .invokevirtual idx, a, b, v)) (hl : qc_lk2 mi.1 idx q m2.2.1 = true) (hm : qc_mf m2 0 n p1 p2 p3 p4 = true) (hk : qc_ki w a0 ci) (hcl : (qc_clT ci).1 = m2.2.1.cls) (hV : qc_fm s M M1 ∧ qc_V d 0 0 m2 (.ref a0 :: as) w M (qc_eq none w1 M1)) (hn : Nat.beq as.length n = true) (hs : as' = as.reverse ++ .ref a0 :: st) (hst : (st.map fun v => v.category).sum ≤ 8) (hR : d + 1 ≤ R.frames ∧ 8 + (m2.2.2.2.1 + 11) + 64 * d ≤ R.locals) (hf : cu ≤ R.cells ∧ su ≤ R.slots) (kk : qc_fm s M1 M' ∧ qc_X R mi QQ cu su w1 (pc', lv, st, M1)) : qc_fm s M M' ∧ qc_X R mi QQ cu su w (pc, lv, as', M) :=
  ⟨hV.1.tr kk.1, qc_cVn hd hl hm hk hcl hV.2 hn hs hst hR hf kk.2⟩
end
