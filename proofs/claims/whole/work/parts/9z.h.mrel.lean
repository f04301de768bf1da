/-! the reference's reading of sums: what its rows mean -/
abbrev qJs : Type := List (Nat × Nat × Int32)
abbrev qFs : Type := List (Nat × Nat × Int32 × Nat × Int32)
def jK (f g h : Nat → Int32) : qJs → Prop
  | [] => True
  | j :: J => (f J.length = nI j.1 ∧ g J.length = nI j.2.1 ∧ h J.length = j.2.2 ∧ j.1 ≤ 9) ∧ jK f g h J
def pK (f : Nat → Int32) : List Nat → Prop
  | [] => True
  | x :: P => (f P.length = nI x ∧ x < 420) ∧ pK f P
def fK (f g h k l : Nat → Int32) : qFs → Prop
  | [] => True
  | j :: F => (f F.length = nI j.1 ∧ g F.length = nI j.2.1 ∧ h F.length = j.2.2.1 ∧ k F.length = nI j.2.2.2.1 ∧ l F.length = j.2.2.2.2 ∧ j.1 ≤ 5 ∧ j.2.1 < 1000) ∧ fK f g h k l F
theorem jK_co {f g h f' g' h' : Nat → Int32} : ∀ {J : qJs}, (∀ i, i < J.length → f' i = f i ∧ g' i = g i ∧ h' i = h i) → jK f g h J → jK f' g' h' J
  | [], _, _ => trivial
  | j :: J, e, ⟨⟨h1, h2, h3, h4⟩, h5⟩ => by
    obtain ⟨e1, e2, e3⟩ := e J.length (by rw [List.length_cons]; omega)
    exact ⟨⟨e1.trans h1, e2.trans h2, e3.trans h3, h4⟩, jK_co (fun i hi => e i (by rw [List.length_cons]; omega)) h5⟩
theorem pK_co {f f' : Nat → Int32} : ∀ {P : List Nat}, (∀ i, i < P.length → f' i = f i) → pK f P → pK f' P
  | [], _, _ => trivial
  | j :: P, e, ⟨⟨h1, h2⟩, h5⟩ => ⟨⟨(e P.length (by rw [List.length_cons]; omega)).trans h1, h2⟩, pK_co (fun i hi => e i (by rw [List.length_cons]; omega)) h5⟩
theorem fK_co {f g h k l f' g' h' k' l' : Nat → Int32} : ∀ {F : qFs}, (∀ i, i < F.length → f' i = f i ∧ g' i = g i ∧ h' i = h i ∧ k' i = k i ∧ l' i = l i) → fK f g h k l F → fK f' g' h' k' l' F
  | [], _, _ => trivial
  | j :: F, e, ⟨⟨h1, h2, h3, h4, h5, h6, h7⟩, h8⟩ => by
    obtain ⟨e1, e2, e3, e4, e5⟩ := e F.length (by rw [List.length_cons]; omega)
    exact ⟨⟨e1.trans h1, e2.trans h2, e3.trans h3, e4.trans h4, e5.trans h5, h6, h7⟩, fK_co (fun i hi => e i (by rw [List.length_cons]; omega)) h8⟩
/-- a cast's kind, by its number -/
def qs_ck (h : Nat) : Nat := if h < 5 then 1 else h - 3
/-- node x means d -/
def nN (T : qTI) (ds : List qDen) (x : Nat) (d : qDen) : Prop :=
  (T 303 x = nI d.1 ∧ T 304 x = nI d.2.1 ∧ d.1 ≤ 4 ∧ 1 ≤ d.2.1 ∧ d.2.1 ≤ d.2.2.1 ∧ d.2.2.1 ≤ 400) ∧
  ((∃ v, (T 298 x = 0 ∨ T 298 x = 3) ∧ T 302 x = nI v ∧ d = d_lf d.1 [(1, v)]) ∨
   (∃ v, T 298 x = 1 ∧ T 302 x = nI v ∧ d = d_lf 4 [(2, v)]) ∨
   (T 298 x = 2 ∧ d = d_lf 1 [(3, 0)]) ∨
   (∃ l c, T 298 x = 4 ∧ T 299 x = -1 ∧ T 300 x = nI l ∧ T 302 x = nI c ∧ l < 8 ∧ d = d_lf (qw_kd l) [(3, 0), (10 + l, c)]) ∨
   (∃ l c a da, T 298 x = 4 ∧ T 299 x = nI a ∧ T 300 x = nI l ∧ T 302 x = nI c ∧ l < 8 ∧ a < x ∧ ds[a]? = some da ∧ d = d_un (qw_kd l) da.1 [(10 + l, c)] da) ∨
   (∃ a e da de v, T 299 x = nI a ∧ T 300 x = nI e ∧ T 302 x = nI v ∧ a < x ∧ e < x ∧ ds[a]? = some da ∧ ds[e]? = some de ∧
     ((T 298 x = 5 ∧ v < 1790 ∧ d = d_bi (max da.1 de.1) (max da.1 de.1) (max da.1 de.1) [(v + qs_ko (max da.1 de.1), 0)] da de) ∨
      (T 298 x = 6 ∧ v < 6 ∧ d = d_bi 0 (max da.1 de.1) (max da.1 de.1) [(1400 + qs_ko (max da.1 de.1), 0), (1500 + v, 0)] da de) ∨
      (T 298 x = 7 ∧ v < 1790 ∧ d = d_bi da.1 da.1 1 [(v + da.1, 0)] da de) ∨
      (T 298 x = 10 ∧ d = d_lg 0 da de) ∨ (T 298 x = 11 ∧ d = d_lg 1 da de))) ∨
   (∃ a e g da de dg, T 298 x = 13 ∧ T 299 x = nI a ∧ T 300 x = nI e ∧ T 301 x = nI g ∧ a < x ∧ e < x ∧ g < x ∧ ds[a]? = some da ∧ ds[e]? = some de ∧ ds[g]? = some dg ∧ d = d_ch (max de.1 dg.1) da de dg) ∨
   (∃ a da v, T 299 x = nI a ∧ T 302 x = nI v ∧ a < x ∧ ds[a]? = some da ∧
     ((T 298 x = 8 ∧ d = d_un da.1 da.1 [(1200 + da.1, 0)] da) ∨ (T 298 x = 9 ∧ d = d_un da.1 da.1 [(1300 + da.1, 0)] da) ∨
      (T 298 x = 12 ∧ d = d_un 0 da.1 [(1810, 0)] da) ∨ (T 298 x = 14 ∧ d = d_un da.1 da.1 [(1700 + da.1, 0)] da) ∨
      (T 298 x = 15 ∧ v ≤ 3 ∧ d = d_un 4 4 [(1704 + 10 * v, 0)] da) ∨ (T 298 x = 16 ∧ d = d_un d.1 d.1 [(1740 + d.1, 0)] da) ∨
      (T 298 x = 17 ∧ v ≤ 7 ∧ d = d_un (qs_ck v) (qs_ck v) (if v < 4 then [(1650 + v, 0)] else []) da))))
theorem nN_co {T T' : qTI} {ds : List qDen} {x : Nat} {d : qDen} (e : ∀ a, 298 ≤ a → a ≤ 304 → T' a x = T a x) (h : nN T ds x d) : nN T' ds x d := by
  unfold nN at h ⊢
  rw [e 298 (by decide) (by decide), e 299 (by decide) (by decide), e 300 (by decide) (by decide), e 301 (by decide) (by decide), e 302 (by decide) (by decide), e 303 (by decide) (by decide), e 304 (by decide) (by decide)]
  exact h
theorem ds_up {ds t : List qDen} {x : Nat} {d : qDen} (h : ds[x]? = some d) : (ds ++ t)[x]? = some d := by
  have hx : x < ds.length := (List.getElem?_eq_some_iff.mp h).1
  rw [List.getElem?_append_left hx]
  exact h
theorem nN_up {T : qTI} {ds t : List qDen} {x : Nat} {d : qDen} (h : nN T ds x d) : nN T (ds ++ t) x d := by
  obtain ⟨h1, h2⟩ := h
  refine ⟨h1, ?_⟩
  rcases h2 with z | z | z | z | ⟨l, c, a, da, z1, z2, z3, z4, z5, z6, z7, z8⟩ | ⟨a, e, da, de, v, z1, z2, z3, z4, z5, z6, z7, z8⟩ | ⟨a, e, g, da, de, dg, z1, z2, z3, z4, z5, z6, z7, z8, z9, za, zb⟩ | ⟨a, da, v, z1, z2, z3, z4, z5⟩
  · exact Or.inl z
  · exact Or.inr (Or.inl z)
  · exact Or.inr (Or.inr (Or.inl z))
  · exact Or.inr (Or.inr (Or.inr (Or.inl z)))
  · exact Or.inr (Or.inr (Or.inr (Or.inr (Or.inl ⟨l, c, a, da, z1, z2, z3, z4, z5, z6, ds_up z7, z8⟩))))
  · exact Or.inr (Or.inr (Or.inr (Or.inr (Or.inr (Or.inl ⟨a, e, da, de, v, z1, z2, z3, z4, z5, ds_up z6, ds_up z7, z8⟩)))))
  · exact Or.inr (Or.inr (Or.inr (Or.inr (Or.inr (Or.inr (Or.inl ⟨a, e, g, da, de, dg, z1, z2, z3, z4, z5, z6, z7, ds_up z8, ds_up z9, ds_up za, zb⟩))))))
  · exact Or.inr (Or.inr (Or.inr (Or.inr (Or.inr (Or.inr (Or.inr ⟨a, da, v, z1, z2, z3, ds_up z4, z5⟩))))))
def mkL : List Nat := [9, 10, 11, 13, 15, 16, 17, 25, 26, 28, 32, 34]
/-- what may change of ints -/
def mF (I0 I : qTI) : Prop := ∀ a k, (a < 298 ∨ 314 < a) → ¬ (a = 291 ∧ k ∈ mkL) → I a k = I0 a k
def mTok (b : Nat → Nat) (τ : Option (Nat × Nat)) (p : Nat) (I : qTI) (L : qTL) (D : qTD) : Prop := match τ with
  | none => sM b p I L D
  | some e => sF e I
def mR (b : Nat → Nat) (q : Nat) (I0 : qTI) (L0 : qTL) (D0 : qTD) (τ : Option (Nat × Nat)) (st : qP) (o : Nat) (J : qJs) (P : List Nat) (F : qFs) (ds : List qDen) (I : qTI) (L : qTL) (D : qTD) : Prop :=
  (mF I0 I ∧ (∀ a k, ¬ (a = 291 ∧ k = 12) → L a k = L0 a k) ∧ ∀ a k, ¬ (a = 291 ∧ k = 14) → ¬ (a = 305 ∧ 100 * q ≤ k) → D a k = D0 a k) ∧
  mTok b τ st.1 I L D ∧
  (I 291 25 = nI o ∧ I 291 26 = nI st.2.length ∧ ∀ i v, st.2[i]? = some v → D 305 (100 * q + i) = v) ∧
  (I 291 28 = nI J.length ∧ jK (I 306) (I 307) (I 308) J) ∧
  (I 291 32 = nI P.length ∧ pK (I 309) P) ∧
  (I 291 34 = nI F.length ∧ fK (I 310) (I 311) (I 312) (I 313) (I 314) F) ∧
  (I 291 17 = nI ds.length ∧ ∀ x d, ds[x]? = some d → nN I ds x d)
/-- what stands -/
def mS (b ln : Nat → Nat) (len q : Nat) (I0 : qTI) : Prop :=
  tpM b len I0 ∧ (∀ cc, cc < 10 → (I0 292 cc = -1 ∧ ln cc = 8) ∨ ∃ i, i < 11 ∧ I0 292 cc = nI i ∧ I0 293 i = nI (ln cc) ∧ ln cc < 8) ∧ I0 291 40 = nI q ∧ q < 12
theorem mF_u {I0 I : qTI} (h : mF I0 I) {k : Nat} (hk : k ∈ mkL) (v : Int32) : mF I0 (qc_u I 291 k v) := fun a j h1 h2 => by
  rw [qc_u_ne _ _ (by
    by_cases y : a = 291
    · right
      intro e
      exact h2 ⟨y, by rw [e]; exact hk⟩
    · exact Or.inl y)]
  exact h a j h1 h2
theorem mF_a {I0 I : qTI} (h : mF I0 I) {a : Nat} (ha : 298 ≤ a ∧ a ≤ 314) (k : Nat) (v : Int32) : mF I0 (qc_u I a k v) := fun c j h1 h2 => by
  rw [qc_u_ne _ _ (Or.inl (by omega))]
  exact h c j h1 h2
section
variable {w : qcW} {I I0 : qTI} {L L0 : qTL} {D D0 : qTD} {R : qTR} {b ln : Nat → Nat} {len q o : Nat} {τ : Option (Nat × Nat)} {st : qP} {J : qJs} {P : List Nat} {F : qFs} {ds : List qDen}
theorem mTok_co {p : Nat} {I' : qTI} {D' : qTD} (h : mTok b τ p I L D) (e : ∀ k, k = 9 ∨ k = 10 ∨ k = 11 ∨ k = 13 ∨ k = 15 ∨ k = 16 → I' 291 k = I 291 k) (e2 : D' 291 14 = D 291 14) : mTok b τ p I' L D' := by
  cases τ with
  | none =>
    obtain ⟨a1, a2, a3, a4, a5, a6, a7⟩ := h
    exact ⟨(e 10 (by decide)).trans a1, (e 11 (by decide)).trans a2, (e 15 (by decide)).trans a3, (e 9 (by decide)).trans a4, a5, fun z => (e 13 (by decide)).trans (a6 z), fun z => e2.trans (a7 z)⟩
  | some e' =>
    obtain ⟨a1, a2, a3, a4⟩ := h
    exact ⟨(e 15 (by decide)).trans a1, a2, a3, (e 16 (by decide)).trans a4⟩
theorem mF_tp (hS : mS b ln len q I0) (h : mF I0 I) : tpM b len I := by
  have h297 : I 297 = I0 297 := funext fun k => h 297 k (by decide) (fun z => absurd z.1 (by decide))
  exact ⟨(h 291 8 (by decide) (by decide)).trans hS.1.1, fun p hp => by rw [h297]; exact hS.1.2 p hp⟩
/-- a field of the reader changes -/
theorem mR_f (h : mR b q I0 L0 D0 τ st o J P F ds I L D) {k : Nat} (hk : k = 25 ∨ k = 26 ∨ k = 28 ∨ k = 32 ∨ k = 34) (v : Int32) {st' : qP} {o' : Nat} {J' : qJs} {P' : List Nat} {F' : qFs} (hst : st'.1 = st.1)
    (h25 : (k = 25 ∧ v = nI o') ∨ (k ≠ 25 ∧ o' = o)) (h26 : (k = 26 ∧ v = nI st'.2.length ∧ ∀ i v, st'.2[i]? = some v → D 305 (100 * q + i) = v) ∨ (k ≠ 26 ∧ st'.2 = st.2)) (h28 : (k = 28 ∧ v = nI J'.length ∧ jK (I 306) (I 307) (I 308) J') ∨ (k ≠ 28 ∧ J' = J)) (h32 : (k = 32 ∧ v = nI P'.length ∧ pK (I 309) P') ∨ (k ≠ 32 ∧ P' = P)) (h34 : (k = 34 ∧ v = nI F'.length ∧ fK (I 310) (I 311) (I 312) (I 313) (I 314) F') ∨ (k ≠ 34 ∧ F' = F)) :
    mR b q I0 L0 D0 τ st' o' J' P' F' ds (qc_u I 291 k v) L D := by
  obtain ⟨⟨a1, a2, a3⟩, t, ⟨b1, b2, b3⟩, ⟨c1, c2⟩, ⟨d1, d2⟩, ⟨e1, e2⟩, f1, f2⟩ := h
  have hm : k ∈ mkL := by rcases hk with z | z | z | z | z <;> (rw [z]; decide)
  have n : ∀ j, j ≠ k → qc_u I 291 k v 291 j = I 291 j := fun j hj => qc_u_ne _ _ (Or.inr hj)
  have off : ∀ a, a ≠ 291 → qc_u I 291 k v a = I a := fun a ha => qc_u_off _ _ ha
  have at_ : ∀ j, j = k → qc_u I 291 k v 291 j = v := fun j hj => by rw [hj]; exact qc_u_at _ _ _ _
  refine ⟨⟨mF_u a1 hm v, a2, a3⟩, ?_, ⟨?_, ?_⟩, ⟨?_, ?_⟩, ⟨?_, ?_⟩, ⟨?_, ?_⟩, ?_, fun x d hx => nN_co (fun a h1 h2 => by rw [off a (by omega)]) (f2 x d hx)⟩
  · rw [hst]
    exact mTok_co t (fun j hj => n j (by omega)) rfl
  · rcases h25 with ⟨z, y⟩ | ⟨z, y⟩
    · rw [at_ 25 z.symm]; exact y
    · rw [n 25 (fun u => z u.symm), y]; exact b1
  · rcases h26 with ⟨z, y, u⟩ | ⟨z, y⟩
    · rw [at_ 26 z.symm]; exact ⟨y, u⟩
    · rw [n 26 (fun u => z u.symm), y]; exact ⟨b2, b3⟩
  · rcases h28 with ⟨z, y, u⟩ | ⟨z, y⟩
    · rw [at_ 28 z.symm]; exact y
    · rw [n 28 (fun u => z u.symm), y]; exact c1
  · rw [off 306 (by decide), off 307 (by decide), off 308 (by decide)]
    rcases h28 with ⟨z, y, u⟩ | ⟨z, y⟩
    · exact u
    · rw [y]; exact c2
  · rcases h32 with ⟨z, y, u⟩ | ⟨z, y⟩
    · rw [at_ 32 z.symm]; exact y
    · rw [n 32 (fun u => z u.symm), y]; exact d1
  · rw [off 309 (by decide)]
    rcases h32 with ⟨z, y, u⟩ | ⟨z, y⟩
    · exact u
    · rw [y]; exact d2
  · rcases h34 with ⟨z, y, u⟩ | ⟨z, y⟩
    · rw [at_ 34 z.symm]; exact y
    · rw [n 34 (fun u => z u.symm), y]; exact e1
  · rw [off 310 (by decide), off 311 (by decide), off 312 (by decide), off 313 (by decide), off 314 (by decide)]
    rcases h34 with ⟨z, y, u⟩ | ⟨z, y⟩
    · exact u
    · rw [y]; exact e2
  · rw [n 17 (by omega)]; exact f1
/-- a row of the reader changes where it isn't used -/
theorem mR_a (h : mR b q I0 L0 D0 τ st o J P F ds I L D) {a k : Nat} (ha : 298 ≤ a ∧ a ≤ 314) (v : Int32) (h1 : a ≤ 304 → ds.length ≤ k) (h2 : 306 ≤ a ∧ a ≤ 308 → J.length ≤ k) (h3 : a = 309 → P.length ≤ k) (h4 : 310 ≤ a → F.length ≤ k) : mR b q I0 L0 D0 τ st o J P F ds (qc_u I a k v) L D := by
  obtain ⟨⟨a1, a2, a3⟩, t, ⟨b1, b2, b3⟩, ⟨c1, c2⟩, ⟨d1, d2⟩, ⟨e1, e2⟩, f1, f2⟩ := h
  have n : ∀ j, qc_u I a k v 291 j = I 291 j := fun j => qc_u_ne _ _ (Or.inl (by omega))
  have m : ∀ c j, (c = a → j < k) → qc_u I a k v c j = I c j := fun c j hc => qc_u_ne _ _ (by
    by_cases y : c = a
    · have := hc y; right; omega
    · exact Or.inl y)
  refine ⟨⟨mF_a a1 ha k v, a2, a3⟩, mTok_co t (fun j _ => n j) rfl, ⟨(n 25).trans b1, (n 26).trans b2, b3⟩, ⟨(n 28).trans c1, ?_⟩, ⟨(n 32).trans d1, ?_⟩, ⟨(n 34).trans e1, ?_⟩, (n 17).trans f1, fun x d hx => nN_co (fun c g1 g2 => m c x (fun y => ?_)) (f2 x d hx)⟩
  · exact jK_co (fun i hi => ⟨m 306 i (fun y => by have := h2 (by omega); omega), m 307 i (fun y => by have := h2 (by omega); omega), m 308 i (fun y => by have := h2 (by omega); omega)⟩) c2
  · exact pK_co (fun i hi => m 309 i (fun y => by have := h3 y.symm; omega)) d2
  · exact fK_co (fun i hi => ⟨m 310 i (fun y => by have := h4 (by omega); omega), m 311 i (fun y => by have := h4 (by omega); omega), m 312 i (fun y => by have := h4 (by omega); omega), m 313 i (fun y => by have := h4 (by omega); omega), m 314 i (fun y => by have := h4 (by omega); omega)⟩) e2
  · have := (List.getElem?_eq_some_iff.mp hx).1
    have := h1 (by omega)
    omega
end
