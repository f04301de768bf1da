/-! the pile of both -/
def qp_rg (k : Nat) (a : Int64) : Prop := (k = 0 → a = 0 ∨ a = 1) ∧ (k = 1 → a = a.toInt32.toInt64)
def qp_V (k : Nat) (a : Int64) (x : UInt64) (b : Int64) (y : UInt64) : Prop := (k ≤ 2 → a = b ∧ qp_rg k a) ∧ (3 ≤ k → x = y ∧ qf_N x ∧ (k = 3 → qf_isF x))
def qp_R : List Nat → (Nat → Int64) → (Nat → UInt64) → (Nat → Int64) → (Nat → UInt64) → Prop
  | [], _, _, _, _ => True
  | k :: r, pc, xc, pm, xm => qp_V k (pc r.length) (xc r.length) (pm r.length) (xm r.length) ∧ qp_R r pc xc pm xm
theorem qp_R_co : ∀ (r : List Nat) {pc pc' : Nat → Int64} {xc xc' : Nat → UInt64} {pm pm' : Nat → Int64} {xm xm' : Nat → UInt64}, (∀ k, k < r.length → pc' k = pc k ∧ xc' k = xc k ∧ pm' k = pm k ∧ xm' k = xm k) → qp_R r pc xc pm xm → qp_R r pc' xc' pm' xm'
  | [], _, _, _, _, _, _, _, _, _, _ => trivial
  | k :: r, _, _, _, _, _, _, _, _, h, hr => by
    obtain ⟨e1, e2, e3, e4⟩ := h r.length (Nat.lt_succ_self _)
    refine ⟨?_, qp_R_co r (fun j hj => h j (Nat.lt_succ_of_lt hj)) hr.2⟩
    rw [e1, e2, e3, e4]
    exact hr.1
theorem qp_R_p {r : List Nat} {pc pm : Nat → Int64} {xc xm : Nat → UInt64} {n : Nat} {a b : Int64} (h : qp_R r pc xc pm xm) (hn : r.length ≤ n) : qp_R r (qi_up pc n a) xc (qi_up pm n b) xm :=
  qp_R_co r (fun k hk => ⟨qi_up_ne _ _ (by omega), rfl, qi_up_ne _ _ (by omega), rfl⟩) h
theorem qp_R_x {r : List Nat} {pc pm : Nat → Int64} {xc xm : Nat → UInt64} {n : Nat} {a b : UInt64} (h : qp_R r pc xc pm xm) (hn : r.length ≤ n) : qp_R r pc (qi_up xc n a) pm (qi_up xm n b) :=
  qp_R_co r (fun k hk => ⟨rfl, qi_up_ne _ _ (by omega), rfl, qi_up_ne _ _ (by omega)⟩) h
theorem qp_V1 {k : Nat} {a b : Int64} {x y : UInt64} (hk : k ≤ 2) (h : a = b) (hr : qp_rg k a) : qp_V k a x b y := ⟨fun _ => ⟨h, hr⟩, fun q => by omega⟩
theorem qp_V3 {k : Nat} {a b : Int64} {x y : UInt64} (hk : 3 ≤ k) (h : x = y) (hN : qf_N x) (hF : k = 3 → qf_isF x) : qp_V k a x b y := ⟨fun q => by omega, fun _ => ⟨h, hN, hF⟩⟩
theorem qc_uu {α : Type} (f : Nat → Nat → α) (a k : Nat) (x y : α) : qc_u (qc_u f a k x) a k y = qc_u f a k y := by
  funext b j
  unfold qc_u
  split
  · split <;> rfl
  · rfl
theorem qi_d1 (n : Nat) : nI (n + 1) - 1 = nI n := qi_sub (a := n + 1) (b := 1) (by omega)
section
variable {w : qcW} {I : qTI} {L : qTL} {D : qTD} {R : qTR} {p : Nat → Int64} {x : Nat → UInt64} {n : Nat}
theorem cx_take (hn : n < 24) : fX6_take w (qc_u I 287 2 (nI (n + 1))) (qi_rr L 288 p) D R = some (p n, qc_u I 287 2 (nI n), qi_rr L 288 p, D, R) := by
  unfold fX6_take
  rw [qc_u_at, if_neg (fun q => by have := (qi_le (b := 0) (by omega) (by decide)).mp q; omega), qi_d1, qc_uu, qc_u_at, qi_inbN hn (by decide), qc_gdt, nI_clamp (by omega), qi_rr_on]
theorem cx_takeR (hn : n < 24) : fX6_takeReal w (qc_u I 287 2 (nI (n + 1))) L (qi_rr D 289 x) R = some (x n, qc_u I 287 2 (nI n), L, qi_rr D 289 x, R) := by
  unfold fX6_takeReal
  rw [qc_u_at, if_neg (fun q => by have := (qi_le (b := 0) (by omega) (by decide)).mp q; omega), qi_d1, qc_uu, qc_u_at, qi_inbN hn (by decide), qc_gdt, nI_clamp (by omega), qi_rr_on]
theorem qi_24 {i : Nat} (h : i < 2 ^ 31) : (24 : Int32) ≤ nI i ↔ 24 ≤ i := qi_le (a := 24) (by decide) h
theorem cx_lay (hn : n < 24) (v : Int64) : fX6_lay w (qc_u I 287 2 (nI n)) (qi_rr L 288 p) D R v = some ((), qc_u I 287 2 (nI (n + 1)), qi_rr L 288 (qi_up p n v), D, R) := by
  unfold fX6_lay
  rw [qc_u_at, if_neg (fun q => by have := (qi_24 (by omega)).mp q; omega), qi_inbN hn (by decide), qc_gdt, qc_uu, qi_s1, nI_clamp (by omega), qi_rr_u]
theorem cx_layR (hn : n < 24) (v : UInt64) : fX6_layReal w (qc_u I 287 2 (nI n)) L (qi_rr D 289 x) R v = some ((), qc_u I 287 2 (nI (n + 1)), L, qi_rr D 289 (qi_up x n v), R) := by
  unfold fX6_layReal
  rw [qc_u_at, if_neg (fun q => by have := (qi_24 (by omega)).mp q; omega), qi_inbN hn (by decide), qc_gdt, qc_uu, qi_s1, nI_clamp (by omega), qi_rr_u]
end
/-- what one act does to both -/
def qp_S (w : qcW) (Ic : qTI) (Lc : qTL) (Dc : qTD) (Rc : qTR) (Ir : qTI) (Lr : qTL) (Dr : qTD) (Rr : qTR) (o a : Int32) (h : Nat) (pc : Nat → Int64) (xc : Nat → UInt64) (pm : Nat → Int64) (xm : Nat → UInt64) (t : List Nat) : Prop :=
  ∃ (f : Int32) (h1 t1 : Nat) (pc' : Nat → Int64) (xc' : Nat → UInt64) (pm' : Nat → Int64) (xm' : Nat → UInt64),
    fX4_step w (qc_u Ic 287 2 (nI h)) (qi_rr Lc 288 pc) (qi_rr Dc 289 xc) Rc o a = some (f, qc_u Ic 287 2 (nI h1), qi_rr Lc 288 pc', qi_rr Dc 289 xc', Rc) ∧
    fX12_does w (qc_u Ir 291 67 (nI h)) (qi_rr Lr 328 pm) (qi_rr Dr 329 xm) Rr o a = some ((), if f = 0 then qc_u Ir 291 67 (nI t1) else qc_u (qc_u Ir 291 67 (nI t1)) 291 69 f, qi_rr Lr 328 pm', qi_rr Dr 329 xm', Rr) ∧
    (f = 0 → h1 = t.length ∧ t1 = t.length ∧ qp_R t pc' xc' pm' xm') ∧ 0 ≤ f.toInt ∧ (∀ k, k < 32 → qc_n64 (xm' k) = true)
theorem qp_N_up {x : Nat → UInt64} {n : Nat} {v : UInt64} (h : ∀ k, k < 32 → qc_n64 (x k) = true) (hv : qf_N v) : ∀ k, k < 32 → qc_n64 (qi_up x n v k) = true := by
  intro k hk
  unfold qi_up
  split
  · exact (qf_n64 _).mpr hv
  · exact h k hk
section
variable {w : qcW} {Ic : qTI} {Lc : qTL} {Dc : qTD} {Rc : qTR} {Ir : qTI} {Lr : qTL} {Dr : qTD} {Rr : qTR} {a : Int32} {pc : Nat → Int64} {xc : Nat → UInt64} {pm : Nat → Int64} {xm : Nat → UInt64} {r : List Nat}
/-- an act that leaves a whole number at the place n -/
theorem qp_mkp {o : Int32} {h n k : Nat} {v u : Int64} (hN : ∀ k, k < 32 → qc_n64 (xm k) = true) (hr : r.length = n) (hk : k ≤ 2) (hR : qp_R r pc xc pm xm) (hv : v = u) (hg : qp_rg k v)
    (e1 : fX4_step w (qc_u Ic 287 2 (nI h)) (qi_rr Lc 288 pc) (qi_rr Dc 289 xc) Rc o a = some (0, qc_u Ic 287 2 (nI (n + 1)), qi_rr Lc 288 (qi_up pc n v), qi_rr Dc 289 xc, Rc))
    (e2 : fX12_does w (qc_u Ir 291 67 (nI h)) (qi_rr Lr 328 pm) (qi_rr Dr 329 xm) Rr o a = some ((), qc_u Ir 291 67 (nI (n + 1)), qi_rr Lr 328 (qi_up pm n u), qi_rr Dr 329 xm, Rr)) : qp_S w Ic Lc Dc Rc Ir Lr Dr Rr o a h pc xc pm xm (k :: r) := by
  subst hr
  refine ⟨0, r.length + 1, r.length + 1, _, _, _, _, e1, by rw [if_pos rfl]; exact e2, fun _ => ⟨rfl, rfl, ?_, qp_R_p hR (Nat.le_refl _)⟩, by decide, hN⟩
  rw [qi_up_at, qi_up_at]
  exact qp_V1 hk hv hg
/-- an act that leaves a real there -/
theorem qp_mkx {o : Int32} {h n k : Nat} {v u : UInt64} (hN : ∀ k, k < 32 → qc_n64 (xm k) = true) (hr : r.length = n) (hk : 3 ≤ k) (hR : qp_R r pc xc pm xm) (hv : v = u) (hg : qf_N v) (hF : k = 3 → qf_isF v)
    (e1 : fX4_step w (qc_u Ic 287 2 (nI h)) (qi_rr Lc 288 pc) (qi_rr Dc 289 xc) Rc o a = some (0, qc_u Ic 287 2 (nI (n + 1)), qi_rr Lc 288 pc, qi_rr Dc 289 (qi_up xc n v), Rc))
    (e2 : fX12_does w (qc_u Ir 291 67 (nI h)) (qi_rr Lr 328 pm) (qi_rr Dr 329 xm) Rr o a = some ((), qc_u Ir 291 67 (nI (n + 1)), qi_rr Lr 328 pm, qi_rr Dr 329 (qi_up xm n u), Rr)) : qp_S w Ic Lc Dc Rc Ir Lr Dr Rr o a h pc xc pm xm (k :: r) := by
  subst hr
  refine ⟨0, r.length + 1, r.length + 1, _, _, _, _, e1, by rw [if_pos rfl]; exact e2, fun _ => ⟨rfl, rfl, ?_, qp_R_x hR (Nat.le_refl _)⟩, by decide, qp_N_up hN (by rw [← hv]; exact hg)⟩
  rw [qi_up_at, qi_up_at]
  exact qp_V3 hk hv hg hF
end
