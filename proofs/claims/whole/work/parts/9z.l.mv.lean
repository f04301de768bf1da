/-! how a part of a text that was read ends -/
theorem sv_le (m : Nat) : qs_sv m ≤ 8 ∧ qs_sv m ≠ 3 := by
  unfold qs_sv
  repeat' split
  all_goals omega
def qs_en (b : Nat → Nat) (x : Nat) (st : qP) : Prop := qs_sv (qt_m b st.1) < x ∨ (qs_sv (qt_m b st.1) = 4 ∧ x ≤ 4)
theorem qs_ended (b ln : Nat → Nat) : ∀ n, (∀ x o d st q, qs_p b ln n 2 x 0 o d st = .inr q → qs_en b x q.2) ∧ (∀ x y o d st q, (qs_sv (qt_m b st.1) ≤ y ∨ (qs_sv (qt_m b st.1) = 4 ∧ y ≤ 3)) → qs_p b ln n 3 x y o d st = .inr q → qs_en b x q.2)
  | 0 => ⟨fun x o d st q h => (by cases h), fun x y o d st q _ h => (by cases h)⟩
  | n + 1 => by
    obtain ⟨i2, i3⟩ := qs_ended b ln n
    constructor
    · intro x o d st q h
      have h : qs_joined b (qs_p b ln n) x o st = .inr q := h
      unfold qs_joined at h
      split at h
      · obtain ⟨st1, -, h⟩ := qs_b_of h
        obtain ⟨st2, -, h⟩ := qs_b_of h
        obtain ⟨q2, h2, h⟩ := qs_b_of h
        obtain ⟨-, h⟩ := qs_fit_of h
        have e := i2 3 _ _ _ _ h2
        refine i3 x 2 o _ _ q ?_ h
        rcases e with z | z
        · exact Or.inl (by omega)
        · exact Or.inr ⟨z.1, by decide⟩
      · obtain ⟨q2, h2, h⟩ := qs_b_of h
        exact i3 x 8 o _ _ q (Or.inl (sv_le _).1) h
    · intro x y o d st q hp h
      have h : qs_loop b (qs_p b ln n) x y o d st = .inr q := h
      unfold qs_loop at h
      split at h
      · obtain ⟨st1, -, h⟩ := qs_b_of h
        obtain ⟨q2, h2, h⟩ := qs_b_of h
        obtain ⟨-, h⟩ := qs_fit_of h
        have e := i2 _ _ _ _ _ h2
        refine i3 x _ o _ _ q ?_ h
        by_cases z : qs_sv (qt_m b st.1) = 4
        · rw [if_pos z]
          rcases e with u | u <;> omega
        · rw [if_neg z]
          rcases e with u | u <;> omega
      · cases h
        show qs_sv (qt_m b st.1) < x ∨ (qs_sv (qt_m b st.1) = 4 ∧ x ≤ 4)
        omega
section
variable {w : qcW} {I I0 : qTI} {L L0 : qTL} {D D0 : qTD} {R : qTR} {b ln : Nat → Nat} {len q o N n : Nat} {τ : Option (Nat × Nat)} {st : qP} {J : qJs} {P : List Nat} {F : qFs} {ds : List qDen} {x1 : Int32} {k27 : qK27}
/-- all joints of a frame are joined -/
theorem mm_red (h : mR b q I0 L0 D0 none st o J P F ds I L D) (hF : F.length ≤ 40) (hJ : J.length ≤ 420) {I' : qTI} {τ' : Option (Nat × Nat)} {st' : qP} {o' : Nat} {J' : qJs} {P' : List Nat} {F' : qFs} {ds' : List qDen} (hj : fX12_joins w I L D R = some ((), I', L, D, R)) (h' : mR b q I0 L0 D0 τ' st' o' J' P' F' ds' I' L D) (hG : tpG 0 J F) :
    mMd w k27 (n + 1) I L D R x1 = mMd w k27 n I' L D R x1 := by
  have e0 := jd_go (w := w) (R := R) (n := n) (s := 0) (by decide) h hF hJ hG
  have e0 : fX12_joinsDown_l0 w (n + 1) (I, L, D, R, 0) = _ := e0
  unfold mMd
  rw [e0, hj, qc_bds]
  rfl
theorem mm_fin (hb : qt_B b len) (hS : mS b ln len q I0) (h : mR b q I0 L0 D0 none st o J P F ds I L D) (hG : st.1 ≤ len ∧ qt_m b st.1 ≠ 63) (hF : F.length ≤ 40) (hJ : J.length ≤ 420) (ht : tpL 0 J F) :
    mMd w k27 (n + 1) I L D R x1 = if qt_m b st.1 = 59 ∧ (1 < F.length ∨ x1 ≠ 0) then fX12_expression_b250 w k27 I L D R x1 else fX12_expression_b306 w k27 I L D R x1 := by
  have e0 := jd_no (w := w) (R := R) (n := n) (s := 0) (by decide) h hF hJ ht
  have e0 : fX12_joinsDown_l0 w (n + 1) (I, L, D, R, 0) = _ := e0
  have hts := mr_ts (w := w) (R := R) hb hS h hG
  have e34 : (1 : Int32) < I 291 34 ↔ 1 < F.length := by rw [h.2.2.2.2.2.1.1]; exact qi_lt (a := 1) (by decide) (by omega)
  unfold mMd
  rw [e0, qc_bds, if_pos (mR_15 h), ms_59 hts, qc_bds]
  by_cases z : qt_m b st.1 = 59
  · rw [if_pos (decide_eq_true z)]
    by_cases y : 1 < F.length
    · rw [if_pos (e34.mpr y), if_pos ⟨z, Or.inl y⟩]
    · rw [if_neg (fun u => y (e34.mp u))]
      by_cases u : x1 = 0
      · rw [if_pos u, if_neg (fun v => by rcases v.2 with v | v; exact y v; exact v u)]
      · rw [if_neg u, if_pos ⟨z, Or.inr u⟩]
  · rw [if_neg (fun u => z (of_decide_eq_true u)), if_neg (fun u => z u.1)]
/-- the top frame is told anew -/
theorem mR_tf {f f' : Nat × Nat × Int32 × Nat × Int32} {I' : qTI} (h : mR b q I0 L0 D0 τ st o J P (f :: F) ds I L D) (e : ∀ a k, ¬ (310 ≤ a ∧ a ≤ 314 ∧ k = F.length) → I' a k = I a k) (h1 : I' 310 F.length = nI f'.1) (h2 : I' 311 F.length = nI f'.2.1) (h3 : I' 312 F.length = f'.2.2.1) (h4 : I' 313 F.length = nI f'.2.2.2.1) (h5 : I' 314 F.length = f'.2.2.2.2) (h6 : f'.1 ≤ 5) (h7 : f'.2.1 < 1000) : mR b q I0 L0 D0 τ st o J P (f' :: F) ds I' L D := by
  obtain ⟨⟨a1, a2, a3⟩, t, ⟨b1, b2, b3⟩, ⟨c1, c2⟩, ⟨d1, d2⟩, ⟨e1, e2, e3⟩, f1, f2⟩ := h
  have n : ∀ j, I' 291 j = I 291 j := fun j => e 291 j (by omega)
  have off : ∀ a, a < 310 → I' a = I a := fun a ha => funext fun k => e a k (by omega)
  refine ⟨⟨fun a k g1 g2 => (e a k (by omega)).trans (a1 a k g1 g2), a2, a3⟩, mTok_co t (fun j _ => n j) rfl, ⟨(n 25).trans b1, (n 26).trans b2, b3⟩, ⟨(n 28).trans c1, ?_⟩, ⟨(n 32).trans d1, ?_⟩, ⟨(n 34).trans e1, ⟨h1, h2, h3, h4, h5, h6, h7⟩, fK_co (fun i hi => ⟨e 310 i (by omega), e 311 i (by omega), e 312 i (by omega), e 313 i (by omega), e 314 i (by omega)⟩) e3⟩, (n 17).trans f1, fun x d hx => nN_co (fun a g1 g2 => by rw [off a (by omega)]) (f2 x d hx)⟩
  · rw [off 306 (by decide), off 307 (by decide), off 308 (by decide)]; exact c2
  · rw [off 309 (by decide)]; exact d2
end
/-! what a sum that was read leaves -/
def mG (b : Nat → Nat) (len : Nat) (st : qP) (o : Nat) (J : qJs) (P : List Nat) (F : qFs) (ds : List qDen) (N : Nat) : Prop :=
  qs_G b len st ∧ o ≤ 12 ∧ J.length + F.length + ds.length ≤ st.1 + 1 ∧ P.length ≤ st.1 ∧ F.length ≤ o + 1 ∧ 1 ≤ F.length ∧ 500 ≤ N + st.1
abbrev qKc : Type := Nat → Nat → qTI → qTL → qTD → qP → qcO Int32
def mV (b : Nat → Nat) (len q : Nat) (I0 : qTI) (L0 : qTL) (D0 : qTD) (R : qTR) (K : qKc) (o : Nat) (J : qJs) (P : List Nat) (F : qFs) (ds : List qDen) (r : qR (qDen × qP)) (out : qcO Int32) : Prop :=
  qs_n9 r → (∀ s, r = .inr s → ∃ (N n x : Nat) (t : List qDen) (I : qTI) (L : qTL) (D : qTD), out = K N n I L D s.2 ∧ mR b q I0 L0 D0 none s.2 o J (x :: P) F (ds ++ t) I L D ∧ (ds ++ t)[x]? = some s.1 ∧ mG b len s.2 o J (x :: P) F (ds ++ t) (N + 1) ∧ J.length + F.length < n) ∧
    (∀ e, r = .inl e → ∃ (I : qTI) (L : qTL) (D : qTD) (st : qP) (o' : Nat) (J' : qJs) (P' : List Nat) (F' : qFs) (ds' : List qDen), out = some (0, I, L, D, R) ∧ mR b q I0 L0 D0 (some e) st o' J' P' F' ds' I L D)
def K_o (w : qcW) (R : qTR) (x1 : Int32) : qKc := fun N n I L D _ => mOu w (fX12_expression_l27 w N) n I L D R x1
def K_m (w : qcW) (b : Nat → Nat) (R : qTR) (x1 : Int32) (x : Nat) : qKc := fun N n I L D st => if x ≤ 4 ∧ qs_sv (qt_m b st.1) = 4 then mMd w (fX12_expression_l27 w N) n I L D R x1 else mOu w (fX12_expression_l27 w N) n I L D R x1
def K_y (w : qcW) (b : Nat → Nat) (R : qTR) (x1 : Int32) (y : Nat) : qKc := fun N n I L D st => if qs_sv (qt_m b st.1) = 4 ∧ y ≤ 3 then mMd w (fX12_expression_l27 w N) n I L D R x1 else mOu w (fX12_expression_l27 w N) n I L D R x1
def K_e (w : qcW) (R : qTR) (x1 : Int32) : qKc := fun N n I L D _ => fX12_expression_l309 w (fX12_expression_l27 w N) n (I, L, D, R, x1, 2)
section
variable {w : qcW} {I I0 : qTI} {L L0 : qTL} {D D0 : qTD} {R : qTR} {b ln : Nat → Nat} {len q o o1 N n : Nat} {τ : Option (Nat × Nat)} {st : qP} {J J1 : qJs} {P P1 : List Nat} {F F1 : qFs} {ds ds1 : List qDen} {x1 : Int32} {K K1 : qKc} {out : qcO Int32}
theorem mV_b {r1 : qR (qDen × qP)} {g : qDen × qP → qR (qDen × qP)} (h : mV b len q I0 L0 D0 R K1 o1 J1 P1 F1 ds1 r1 out)
    (hok : ∀ s N n x t I L D, r1 = .inr s → mR b q I0 L0 D0 none s.2 o1 J1 (x :: P1) F1 (ds1 ++ t) I L D → (ds1 ++ t)[x]? = some s.1 → mG b len s.2 o1 J1 (x :: P1) F1 (ds1 ++ t) (N + 1) → J1.length + F1.length < n → mV b len q I0 L0 D0 R K o J P F ds (g s) (K1 N n I L D s.2)) : mV b len q I0 L0 D0 R K o J P F ds (qs_b r1 g) out := fun h9 => by
  obtain ⟨n1, n2⟩ := n9_of h9
  obtain ⟨k1, k2⟩ := h n1
  cases r1 with
  | inr s =>
    obtain ⟨N, n, x, t, I, L, D, e1, e2, e3, e4, e5⟩ := k1 s rfl
    rw [e1]
    exact hok s N n x t I L D rfl e2 e3 e4 e5 (n2 s rfl)
  | inl e => exact ⟨fun s z => (by cases z), fun e' z => k2 e' (by cases z; rfl)⟩
theorem mV_ds {r : qR (qDen × qP)} {t0 : List qDen} (h : mV b len q I0 L0 D0 R K o J P F (ds ++ t0) r out) : mV b len q I0 L0 D0 R K o J P F ds r out := fun h9 => by
  obtain ⟨k1, k2⟩ := h h9
  refine ⟨fun s z => ?_, k2⟩
  obtain ⟨N, n, x, t, I, L, D, e1, e2, e3, e4, e5⟩ := k1 s z
  rw [List.append_assoc] at e2 e3 e4
  exact ⟨N, n, x, t0 ++ t, I, L, D, e1, e2, e3, e4, e5⟩
theorem mV_e {e : Nat × Nat} (h : mR b q I0 L0 D0 (some e) st o1 J1 P1 F1 ds1 I L D) (ho : out = some (0, I, L, D, R)) : mV b len q I0 L0 D0 R K o J P F ds (.inl e) out := fun _ => ⟨fun s z => (by cases z), fun e' z => by cases z; exact ⟨I, L, D, st, o1, J1, P1, F1, ds1, ho, h⟩⟩
theorem mV_s {s : qDen × qP} {x : Nat} {t : List qDen} (h : mR b q I0 L0 D0 none s.2 o J (x :: P) F (ds ++ t) I L D) (hx : (ds ++ t)[x]? = some s.1) (hg : mG b len s.2 o J (x :: P) F (ds ++ t) (N + 1)) (hn : J.length + F.length < n) (ho : out = K N n I L D s.2) : mV b len q I0 L0 D0 R K o J P F ds (.inr s) out := fun _ => ⟨fun s' z => by cases z; exact ⟨N, n, x, t, I, L, D, ho, h, hx, hg, hn⟩, fun e z => (by cases z)⟩
theorem mG_st (h : mG b len st o J P F ds N) : st.1 ≤ len ∧ qt_m b st.1 ≠ 63 := ⟨h.1.1, h.1.2.1⟩
theorem mG_le (hb : qt_B b len) (h : mG b len st o J P F ds N) : J.length ≤ 401 ∧ F.length ≤ 13 ∧ ds.length ≤ 401 ∧ P.length ≤ 400 ∧ 100 ≤ N ∧ st.1 ≤ 400 := by
  obtain ⟨⟨g1, -⟩, g2, g3, g4, g5, g6, g7⟩ := h
  have := hb.1
  omega
end
