/-! what an object is visited for -/
section
variable {w : qcW} {L0 : Nat → Int64} {D0 : Nat → UInt64} {L1 : Nat → Int64} {D1 : Nat → UInt64} {rc : Int32} {nr p q n m : Nat} {op ar : Nat → Int32} {C S C' S' : qcM}
theorem qx_cd_F (h : qx_cd w p q n op ar C S) (hc : qx_fc C C') (hs : qx_fs S S') : qx_cd w p q n op ar C' S' :=
  qx_cd_co h (fun a k ha => hc.1 a k (by omega) (by omega) (by omega)) hc.2.2.2 (fun a k x y => hs.1 a k (by omega) (by omega))
theorem qx_re_F (h : qx_re w nr q C S) (hc : qx_fc C C') (hs : qx_fs S S') : qx_re w nr q C' S' :=
  qx_re_co h (fun a ha => hc.2.2.1 a (by omega) (by omega)) hc.2.2.2 (hc.1 286 4 (by omega) (by omega) (by omega)) (hs.1 291 71 (by omega) (by omega)) (hs.1 291 72 (by omega) (by omega)) (hs.2.2.1 305 (by decide) (by decide) (by decide))
/-- the second part and what it leaves -/
theorem qx_val {res : List Nat} {kk : Nat} (hkk : kk ≤ 4) (h338 : 338 ≤ C.2.2.2 286 3) (hk6 : C.1 (C.2.2.2 286 3) 6 = nI kk) (hres : res = [] ∧ kk = 2 ∨ res = [kk]) (hwf : n = 0 ∧ res = [] ∨ 0 < n ∧ qw_wf nr n op ar res) (hsto : ∀ k l, k < n → l < 8 → op k = nI (20 + l) → k + 1 = n ∧ m < 16 ∧ ∃ c, c < 10 ∧ ar k = nI c ∧ C.1 258 c = rc) (hcd : qx_cd w 1 q n op ar C S) (hre : qx_re w nr q C S) (hN : qx_N S) (h69 : S.1 291 69 = 0) (hW : qx_W L0 D0 L1 D1 rc m C S) (h4 : C.1 280 4 = (S.2.1 291 70).toInt32) :
    ∃ (b : Bool) (C' S' : qcM) (m' : Nat) (x2 : Int64) (s0 : UInt64), fX4_visit_b35 w C.1 C.2.1 C.2.2.1 C.2.2.2 = (if b = true then fX4_visit_b93 w C'.1 C'.2.1 C'.2.2.1 C'.2.2.2 x2 s0 else some (false, C')) ∧ qx_F L0 D0 L1 D1 rc m' C S b C' S' ∧ (m' = m ∨ (m' = m + 1 ∧ ∃ k l, k < n ∧ l < 8 ∧ op k = nI (20 + l))) ∧ (n = 0 → S' = S ∧ b = true) ∧ (n ≠ 0 → fX12_works w S.1 S.2.1 S.2.2.1 S.2.2.2 1 = some (b, S')) ∧
      (b = true → (res = [] → x2 = 0 ∧ s0 = 0) ∧ (res = [kk] → (kk ≤ 2 → x2 = S'.2.1 328 0 ∧ s0 = 0) ∧ (3 ≤ kk → s0 = S'.2.2.1 329 0 ∧ qf_N s0 ∧ (kk = 3 → qf_isF s0)))) := by
  obtain ⟨b, C1, S', m', e1, e2, e3, e4, e5, e6⟩ := qx_part (L0 := L0) (D0 := D0) (L1 := L1) (D1 := D1) (rc := rc) (p := 1) (by decide) hwf hsto hcd hre hN h69 hW h4
  have hio := hre.1
  have z1 : nI 1 = (1 : Int32) := rfl
  rw [z1] at e1 e5
  unfold fX4_visit_b35
  rw [e1]
  obtain ⟨I1, Lc1, Dc1, R1⟩ := C1
  rw [qc_bds]
  cases b
  · exact ⟨false, _, S', m', 0, 0, by rw [if_neg (by decide), if_neg (by decide)], e2, e3, e4, e5, fun z => by cases z⟩
  · obtain ⟨f1, f2⟩ := e6 rfl
    obtain ⟨g1, g2, g3, g4⟩ := e2.1
    dsimp only at g1 g2 g3 g4 f1 f2
    subst g4
    rw [if_pos rfl, hio, qc_gdt, g1 _ _ (by omega) (by omega) (by omega), hk6]
    unfold fX4_visit_b61 fX4_visit_b77
    rcases hres with ⟨h1, h2⟩ | h1
    · subst h1 h2
      rw [if_pos (show nI 2 < (3 : Int32) by decide), if_pos rfl, cx_take0 f1, qc_bds, if_pos rfl]
      exact ⟨true, (I1, Lc1, Dc1, C.2.2.2), S', m', 0, 0, by rw [if_pos rfl], e2, e3, e4, e5, fun _ => ⟨fun _ => ⟨rfl, rfl⟩, fun z => by cases z⟩⟩
    · subst h1
      have v := f2 kk rfl
      have e2' := qx_F_h e2 (nI 0)
      dsimp only at e2'
      by_cases k3 : 3 ≤ kk
      · have hlt : ¬ nI kk < (3 : Int32) := fun z => by have := (qi_lt (b := 3) (by omega) (by decide)).mp z; omega
        obtain ⟨v1, v2, v3⟩ := v.2 k3
        rw [if_neg hlt, if_neg (show ¬ (1 : Int32) = 0 by decide), if_neg (show ¬ (1 : Int32) = 0 by decide), cx_takeR1 f1, qc_bds]
        exact ⟨true, (qc_u I1 287 2 (nI 0), Lc1, Dc1, C.2.2.2), S', m', 0, Dc1 289 0, by rw [if_pos rfl], e2', e3, e4, e5, fun _ => ⟨fun z => (by cases z), fun _ => ⟨fun z => by omega, fun _ => ⟨v1, v2, v3⟩⟩⟩⟩
      · have hlt : nI kk < (3 : Int32) := (qi_lt (b := 3) (by omega) (by decide)).mpr (by omega)
        obtain ⟨v1, v2⟩ := v.1 (by omega)
        rw [if_pos hlt, if_pos rfl, cx_take1 f1, qc_bds, if_pos rfl]
        exact ⟨true, (qc_u I1 287 2 (nI 0), Lc1, Dc1, C.2.2.2), S', m', Lc1 288 0, 0, by rw [if_pos rfl], e2', e3, e4, e5, fun _ => ⟨fun z => (by cases z), fun _ => ⟨fun _ => ⟨v1, rfl⟩, fun z => absurd z k3⟩⟩⟩
/-- the third part: the key -/
theorem qx_key {res : List Nat} (hres : n = 0 ∧ res = [] ∨ 0 < n ∧ qw_wf nr n op ar res ∧ (res = [1] ∨ res = [2])) (hsto : ∀ k l, k < n → l < 8 → op k ≠ nI (20 + l)) (hcd : qx_cd w 2 q n op ar C S) (hre : qx_re w nr q C S) (hN : qx_N S) (h69 : S.1 291 69 = 0) (hW : qx_W L0 D0 L1 D1 rc m C S) (h4 : C.1 280 4 = (S.2.1 291 70).toInt32) :
    ∃ (b : Bool) (C1 C' S' : qcM) (key : Int64), fX4_perform w C.1 C.2.1 C.2.2.1 C.2.2.2 2 = some (b, C1) ∧ (b = false → C' = C1) ∧ (b = true → C1.2.2.2 = C.2.2.2 ∧ fX6_take w C1.1 C1.2.1 C1.2.2.1 C1.2.2.2 = some (key, C')) ∧ qx_F L0 D0 L1 D1 rc m C S b C' S' ∧ (n = 0 → S' = S ∧ b = true ∧ key = 0) ∧ (n ≠ 0 → fX12_works w S.1 S.2.1 S.2.2.1 S.2.2.2 2 = some (b, S') ∧ (b = true → key = S'.2.1 328 0)) := by
  obtain ⟨b, C1, S', m', e1, e2, e3, e4, e5, e6⟩ := qx_part (L0 := L0) (D0 := D0) (L1 := L1) (D1 := D1) (rc := rc) (p := 2) (res := res) (by decide) (by rcases hres with z | ⟨z1, z2, _⟩; exact Or.inl z; exact Or.inr ⟨z1, z2⟩) (fun k l hk hl ho => absurd ho (hsto k l hk hl)) hcd hre hN h69 hW h4
  have z1 : nI 2 = (2 : Int32) := rfl
  rw [z1] at e1 e5
  have hm : m' = m := by
    rcases e3 with z | ⟨_, k, l, z1, z2, z3⟩
    · exact z
    · exact absurd z3 (hsto k l z1 z2)
  subst hm
  cases b
  · refine ⟨false, C1, C1, S', 0, e1, fun _ => rfl, (fun z => by cases z), e2, fun z => ⟨(e4 z).1, (e4 z).2, rfl⟩, fun z => ⟨e5 z, fun z => by cases z⟩⟩
  · obtain ⟨f1, f2⟩ := e6 rfl
    have hR := e2.1.2.2.2
    rcases hres with ⟨h1, h2⟩ | ⟨h1, h2, h3⟩
    · subst h1 h2
      exact ⟨true, C1, C1, S', 0, e1, (fun z => by cases z), fun _ => ⟨hR, cx_take0 f1⟩, e2, fun z => ⟨(e4 z).1, rfl, rfl⟩, fun z => absurd rfl z⟩
    · have e2' := qx_F_h e2 (nI 0)
      have hv : C1.2.1 288 0 = S'.2.1 328 0 ∧ C1.1 287 2 = nI 1 := by
        rcases h3 with rfl | rfl
        · exact ⟨((f2 1 rfl).1 (by decide)).1, f1⟩
        · exact ⟨((f2 2 rfl).1 (by decide)).1, f1⟩
      exact ⟨true, C1, _, S', C1.2.1 288 0, e1, (fun z => by cases z), fun _ => ⟨hR, cx_take1 hv.2⟩, e2', fun z => by omega, fun z => ⟨e5 z, fun _ => hv.1⟩⟩
end
