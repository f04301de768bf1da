/-! texts of marks; words, signs, columns -/
def qt_txL : List (List Nat) := [[], [], [], [], [], [102, 105, 110, 100], [111, 114, 100, 101, 114], [100, 111, 119, 110], [102, 105, 114, 115, 116], [102, 111, 108, 100], [99, 111, 117, 110, 116], [115, 117, 109], [109, 101, 97, 110], [119, 104, 101, 114, 101], [98, 121], [115, 101, 116], [114, 111, 119], [121, 101, 115], [110, 111], [110, 111, 116], [111, 114], [97, 110, 100], [97, 98, 115], [102, 108, 111, 111, 114], [99, 101, 105, 108], [114, 105, 110, 116], [115, 105, 103, 110], [109, 105, 110], [109, 97, 120], [98, 121, 116, 101], [115, 104, 111, 114, 116], [99, 104, 97, 114], [105, 110, 116], [108, 111, 110, 103], [102, 108, 111, 97, 116], [100, 111, 117, 98, 108, 101], [61], [33, 61], [60], [62], [60, 61], [62, 61], [38], [124], [94], [60, 60], [62, 62], [62, 62, 62], [43], [45], [42], [47], [37], [126], [40], [41], [91], [93], [44], [63], [58], [58, 61]]
def qt_tx (m : Nat) : List Nat := qt_txL.getD m []
theorem qt_tx_ok : ∀ m, m < 62 → Nat.blt (qc_mk_text.getD m 0) 58 = true ∧ qc_sxLen.getD (qc_mk_text.getD m 0) 0 = (qt_tx m).length ∧ (qt_tx m).length ≤ 6 ∧ ∀ j, j < 6 → (j < (qt_tx m).length → qj_ch (qc_mk_text.getD m 0) (nI j) = nI ((qt_tx m).getD j 0)) ∧ (qt_tx m).getD j 0 < 256 := by decide
def qt_hm (b : Nat → Nat) : Nat → List Nat → Bool
  | _, [] => true
  | s, c :: cs => Nat.beq (b s) c && qt_hm b (s + 1) cs
theorem qt_hm_iff (b : Nat → Nat) : ∀ (cs : List Nat) (s : Nat), qt_hm b s cs = true ↔ ∀ j, j < cs.length → b (s + j) = cs.getD j 0
  | [], s => ⟨fun _ j hj => absurd hj (Nat.not_lt_zero j), fun _ => rfl⟩
  | c :: cs, s => by
    unfold qt_hm
    rw [Bool.and_eq_true_iff, qs_beq, qt_hm_iff b cs (s + 1)]
    constructor
    · rintro ⟨h1, h2⟩ j hj
      cases j with
      | zero => exact h1
      | succ j => rw [show s + (j + 1) = s + 1 + j by omega]; exact h2 j (Nat.lt_of_succ_lt_succ hj)
    · intro h
      refine ⟨h 0 (Nat.succ_pos _), fun j hj => ?_⟩
      have := h (j + 1) (Nat.succ_lt_succ hj)
      rw [show s + (j + 1) = s + 1 + j by omega] at this
      exact this
section
variable {w : qcW} {I : qTI} {L : qTL} {D : qTD} {R : qTR} {b : Nat → Nat} {len : Nat}
theorem qt_hm_in (hB : qt_B b len) {m s : Nat} (hm : m < 62) (hs : s ≤ len) (h : qt_hm b s (qt_tx m) = true) : s + (qt_tx m).length ≤ len := by
  obtain ⟨a1, a2, a3, a4⟩ := qt_tx_ok m hm
  by_cases z : (qt_tx m).length = 0
  · omega
  · have h1 := (qt_hm_iff b _ s).mp h ((qt_tx m).length - 1) (by omega)
    have h2 := (a4 ((qt_tx m).length - 1) (by omega)).2
    have := qt_lt hB (p := s + ((qt_tx m).length - 1)) (by omega)
    omega
theorem cx_hasL (hB : qt_B b len) (hT : tpX b len I) {m s : Nat} (hm : m < 62) (hs : s + (qt_tx m).length ≤ len) : ∀ (n N j : Nat), j + n = (qt_tx m).length → n < N → (∀ i, i < j → b (s + i) = (qt_tx m).getD i 0) → fX10_hasAt_l21 w N (I, L, D, R, nI s, qc_mk_text.getD m 0, nI j) = some (qt_hm b s (qt_tx m), I, L, D, R)
  | n, 0, j, _, h, _ => by omega
  | n, N + 1, j, hj, hN, hall => by
    obtain ⟨a1, a2, a3, a4⟩ := qt_tx_ok m hm
    have hl := hB.1
    rw [fX10_hasAt_l21_s]
    unfold fX10_hasAt_b21
    rw [a1, qc_gdt, a2]
    cases n with
    | zero =>
      rw [if_pos ((qi_le (by omega) (by omega)).mpr (by omega)), (qt_hm_iff b _ s).mpr (fun i hi => hall i (by omega))]
    | succ n =>
      obtain ⟨c1, c2⟩ := a4 j (by omega)
      rw [if_neg (fun z => by have := (qi_le (by omega) (by omega)).mp z; omega), nI_add, qi_inbN (show s + j < 400 by omega) (by decide), qi_inbN (show j < (qt_tx m).length by omega) (by omega), qc_gdt, qc_gdt, nI_clamp (by omega), hT.2 _ (by omega), c1 (by omega)]
      have hb := hB.2.1 (s + j) (by omega)
      by_cases h : b (s + j) = (qt_tx m).getD j 0
      · rw [h, if_pos rfl, qi_s1]
        exact cx_hasL hB hT hm hs n N (j + 1) (by omega) (by omega) (fun i hi => by
          by_cases z : i = j
          · rw [z]; exact h
          · exact hall i (by omega))
      · rw [if_neg (fun z => h ((qi_nI_inj' (by omega) (by omega)).mp z)), show qt_hm b s (qt_tx m) = false from Bool.eq_false_iff.mpr (fun z => h ((qt_hm_iff b _ s).mp z j (by omega)))]
theorem cx_hasAt (hB : qt_B b len) (hT : tpX b len I) {m s : Nat} (hm : m < 62) (hs : s ≤ len) : fX10_hasAt w I L D R (nI s) (qc_mk_text.getD m 0) = some (qt_hm b s (qt_tx m), I, L, D, R) := by
  obtain ⟨a1, a2, a3, a4⟩ := qt_tx_ok m hm
  have hl := hB.1
  unfold fX10_hasAt
  rw [a1, qc_gdt, a2, if_neg (fun z => by have := Int32.lt_iff_toInt_lt.mp z; rw [nI_toInt (by omega)] at this; have : (0 : Int32).toInt = 0 := rfl; omega), hT.1]
  have hsub : (nI len - nI (qt_tx m).length).toInt = (len : Int) - (qt_tx m).length := by
    rw [Int32.toInt_sub, nI_toInt (by omega), nI_toInt (by omega), Int.bmod_eq_of_le (by omega) (by omega)]
  have key : nI s ≤ nI len - nI (qt_tx m).length ↔ s + (qt_tx m).length ≤ len := by
    rw [Int32.le_iff_toInt_le, hsub, nI_toInt (by omega)]
    omega
  by_cases h : s + (qt_tx m).length ≤ len
  · rw [if_pos (key.mpr h)]
    exact cx_hasL hB hT hm h _ qcF 0 (Nat.zero_add _) (by unfold qcF; omega) (fun i hi => by omega)
  · rw [if_neg (fun z => h (key.mp z)), show qt_hm b s (qt_tx m) = false from Bool.eq_false_iff.mpr (fun z => h (qt_hm_in hB hm hs z))]
/-- letters -/
theorem cx_word1 (hB : qt_B b len) : ∀ (m N p i : Nat) (I : qTI), tpX b len I → I 268 3 = nI p → p + m ≤ 400 → i + m ≤ 400 → m < N → (∀ j, j < m → qt_le (b (p + j)) = true) → qt_le (b (p + m)) = false → fX9_readWord_l2 w N (I, L, D, R, nI i) = fX9_readWord_b42 w (qc_u I 268 3 (nI (p + m))) L D R
  | 0, N + 1, p, i, I, hT, h3, h1, h2, _, _, hb => by
    rw [fX9_readWord_l2_s]
    unfold fX9_readWord_b2
    rw [Nat.add_zero, qx_self h3]
    by_cases hi : (400 : Int32) ≤ nI i
    · rw [if_pos hi]
    · rw [if_neg hi, h3, cx_at hB hT (by omega), qc_bds, cx_le (qt_le256 hB p), qc_bds]
      rw [Nat.add_zero] at hb
      rw [hb, if_neg (by decide)]
  | m + 1, N + 1, p, i, I, hT, h3, h1, h2, hN, hall, hb => by
    rw [fX9_readWord_l2_s]
    unfold fX9_readWord_b2
    have hi : ¬ (400 : Int32) ≤ nI i := fun z => by have := (qi_le (a := 400) (by decide) (by omega)).mp z; omega
    have h0 := hall 0 (by omega)
    rw [Nat.add_zero] at h0
    rw [if_neg hi, h3, cx_at hB hT (by omega), qc_bds, cx_le (qt_le256 hB p), qc_bds, h0, if_pos rfl, h3, qi_s1, qi_s1, cx_word1 hB m N (p + 1) (i + 1) _ (tpX_268 hT 3 _) (qc_u_at _ _ _ _) (by omega) (by omega) (by omega) (fun j hj => by have := hall (j + 1) (by omega); rw [show p + 1 + j = p + (j + 1) by omega]; exact this) (by rw [show p + 1 + m = p + (m + 1) by omega]; exact hb), qc_uu, show p + 1 + m = p + (m + 1) by omega]
/-- the last mark that fits -/
def qt_wl (b : Nat → Nat) (s l : Nat) : Nat → Nat → Nat → Nat
  | 0, _, cur => cur
  | n + 1, i, cur => qt_wl b s l n (i + 1) (if (qt_tx i).length = l ∧ qt_hm b s (qt_tx i) = true then i else cur)
theorem cx_word2 (hB : qt_B b len) (hT : tpX b len I) {s l : Nat} (h2 : I 268 2 = nI s) (hs : s ≤ len) (hl : l ≤ 400) : ∀ (n N i cur : Nat), i + n = 62 → n < N → fX9_readWord_l61 w N (I, L, D, qc_u R 268 1 cur, nI l, nI i) = some ((), I, L, D, qc_u R 268 1 (qt_wl b s l n i cur))
  | n, 0, i, cur, _, h => by omega
  | 0, N + 1, i, cur, hi, _ => by
    rw [fX9_readWord_l61_s]
    unfold fX9_readWord_b61
    rw [if_pos ((qi_le (by omega) (by omega)).mpr (by omega))]
    rfl
  | n + 1, N + 1, i, cur, hi, hN => by
    obtain ⟨a1, a2, a3, a4⟩ := qt_tx_ok i (by omega)
    rw [fX9_readWord_l61_s]
    unfold fX9_readWord_b61 fX9_readWord_b115
    rw [if_neg (fun z => by have := (qi_le (by omega) (by omega)).mp z; omega), qi_inbN (show i < 62 by omega) (by decide), qc_gdt, qc_gdt, nI_clamp (by omega), a2, h2, cx_hasAt hB hT (by omega) hs, qc_bds, qc_gdt, qi_s1]
    unfold qt_wl
    by_cases c1 : (qt_tx i).length = l
    · rw [c1, if_pos rfl]
      by_cases c2 : qt_hm b s (qt_tx i) = true
      · rw [if_pos c2, qc_uu, if_pos ⟨rfl, c2⟩]
        exact cx_word2 hB hT h2 hs hl n N (i + 1) i (by omega) (by omega)
      · rw [if_neg c2, if_neg (fun z => c2 z.2)]
        exact cx_word2 hB hT h2 hs hl n N (i + 1) cur (by omega) (by omega)
    · rw [if_neg (fun z => c1 ((qi_nI_inj' (by omega) (by omega)).mp z)), if_neg (fun z => c1 z.1)]
      exact cx_word2 hB hT h2 hs hl n N (i + 1) cur (by omega) (by omega)
end
/-- letters as a number -/
def qt_en : List Nat → Nat → Nat
  | [], v => v
  | c :: cs, v => qt_en cs (32 * v + (c - 96))
theorem qt_en_snoc (cs : List Nat) (c : Nat) : ∀ v, qt_en (cs ++ [c]) v = 32 * qt_en cs v + (c - 96) := by
  induction cs with
  | nil => intro v; rfl
  | cons d cs ih => intro v; exact ih _
def qt_al (cs : List Nat) : Bool := cs.all qt_le
theorem qt_en_0 (cs : List Nat) (h : qt_al cs = true) : qt_en cs 0 = 0 ↔ cs = [] := by
  have key : ∀ (cs : List Nat) (v : Nat), qt_al cs = true → 0 < v → 0 < qt_en cs v := by
    intro cs
    induction cs with
    | nil => intro v _ hv; exact hv
    | cons c cs ih =>
      intro v h hv
      have h := Bool.and_eq_true_iff.mp (show (qt_le c && qt_al cs) = true from h)
      exact ih _ h.2 (by omega)
  cases cs with
  | nil => exact ⟨fun _ => rfl, fun _ => rfl⟩
  | cons c cs =>
    have h := Bool.and_eq_true_iff.mp (show (qt_le c && qt_al cs) = true from h)
    have hc := qt_le_iff.mp h.1
    have := key cs (32 * 0 + (c - 96)) h.2 (by omega)
    constructor
    · intro z
      have z : qt_en cs (32 * 0 + (c - 96)) = 0 := z
      omega
    · intro z; cases z
theorem qt_snoc {α : Type} (l : List α) (h : l ≠ []) : ∃ l' a, l = l' ++ [a] := ⟨l.dropLast, l.getLast h, (List.dropLast_concat_getLast h).symm⟩
theorem qt_al_snoc {cs : List Nat} {c : Nat} (h : qt_al (cs ++ [c]) = true) : qt_al cs = true ∧ qt_le c = true := by
  unfold qt_al at h ⊢
  rw [List.all_append, Bool.and_eq_true_iff] at h
  exact ⟨h.1, (Bool.and_eq_true_iff.mp (show (qt_le c && true) = true from h.2)).1⟩
/-- a word is known by its number -/
theorem qt_wv_iff (b : Nat → Nat) (s : Nat) : ∀ (n : Nat) (cs : List Nat), qt_al cs = true → (∀ j, j < n → qt_le (b (s + j)) = true) → (qt_wv b s n = qt_en cs 0 ↔ (cs.length = n ∧ ∀ j, j < cs.length → b (s + j) = cs.getD j 0))
  | 0, cs, hc, _ => by
    show 0 = qt_en cs 0 ↔ _
    constructor
    · intro h
      have := (qt_en_0 cs hc).mp h.symm
      subst this
      exact ⟨rfl, fun j hj => absurd hj (Nat.not_lt_zero j)⟩
    · rintro ⟨h, _⟩
      have : cs = [] := List.length_eq_zero_iff.mp h
      subst this
      rfl
  | n + 1, cs, hc, hall => by
    show 32 * qt_wv b s n + (b (s + n) - 96) = qt_en cs 0 ↔ _
    have hb := qt_le_iff.mp (hall n (by omega))
    by_cases z : cs = []
    · subst z
      exact ⟨fun h => by have h : 32 * qt_wv b s n + (b (s + n) - 96) = 0 := h; omega, fun h => by cases h.1⟩
    · obtain ⟨cs', c, rfl⟩ := qt_snoc cs z
      obtain ⟨h1, h2⟩ := qt_al_snoc hc
      have hc2 := qt_le_iff.mp h2
      have ih := qt_wv_iff b s n cs' h1 (fun j hj => hall j (by omega))
      rw [qt_en_snoc, List.length_append]
      constructor
      · intro h
        obtain ⟨i1, i2⟩ := ih.mp (by omega)
        refine ⟨by show cs'.length + 1 = n + 1; omega, fun j hj => ?_⟩
        have hj : j < cs'.length + 1 := hj
        by_cases e : j = cs'.length
        · rw [e, i1, List.getD_eq_getElem?_getD, List.getElem?_append_right (by omega), i1, Nat.sub_self]
          show b (s + n) = c
          omega
        · rw [i2 j (by omega), List.getD_eq_getElem?_getD, List.getD_eq_getElem?_getD, List.getElem?_append_left (by omega)]
      · rintro ⟨i1, i2⟩
        have i1 : cs'.length + 1 = n + 1 := i1
        have e := i2 cs'.length (by show cs'.length < cs'.length + 1; omega)
        rw [List.getD_eq_getElem?_getD, List.getElem?_append_right (Nat.le_refl _), Nat.sub_self] at e
        have e : b (s + cs'.length) = c := e
        rw [show cs'.length = n by omega] at e
        have := ih.mpr ⟨by omega, fun j hj => by
          have := i2 j (by show j < cs'.length + 1; omega)
          rw [List.getD_eq_getElem?_getD, List.getElem?_append_left hj] at this
          rw [this, List.getD_eq_getElem?_getD]⟩
        omega
theorem qt_tx_w : ∀ i, i < 62 → (5 ≤ i ∧ i ≤ 35 → qt_al (qt_tx i) = true ∧ qt_en (qt_tx i) 0 = (qt_wL.getD (i - 5) (0, 0)).1 ∧ (qt_wL.getD (i - 5) (0, 0)).2 = i ∧ (qt_tx i).length ≤ 12 ∧ 0 < (qt_tx i).length) ∧ (¬ (5 ≤ i ∧ i ≤ 35) → (qt_tx i).length = 0 ∨ (0 < (qt_tx i).length ∧ qt_le ((qt_tx i).getD 0 0) = false)) := by decide
section
variable {b : Nat → Nat} {len : Nat}
/-- a mark fits a word just if the word has its number -/
theorem qt_fit_w {s n : Nat} (hn : 0 < n) (hall : ∀ j, j < n → qt_le (b (s + j)) = true) {i : Nat} (hi : i < 62) : ((qt_tx i).length = n ∧ qt_hm b s (qt_tx i) = true) ↔ (5 ≤ i ∧ i ≤ 35 ∧ n ≤ 12 ∧ qt_wv b s n = (qt_wL.getD (i - 5) (0, 0)).1) := by
  obtain ⟨h1, h2⟩ := qt_tx_w i hi
  by_cases z : 5 ≤ i ∧ i ≤ 35
  · obtain ⟨a1, a2, a3, a4, a5⟩ := h1 z
    have key := qt_wv_iff b s n (qt_tx i) a1 hall
    rw [a2] at key
    constructor
    · rintro ⟨e1, e2⟩
      exact ⟨z.1, z.2, by omega, key.mpr ⟨e1, (qt_hm_iff b _ s).mp e2⟩⟩
    · rintro ⟨_, _, _, e⟩
      obtain ⟨k1, k2⟩ := key.mp e
      exact ⟨k1, (qt_hm_iff b _ s).mpr k2⟩
  · constructor
    · rintro ⟨e1, e2⟩
      rcases h2 z with y | ⟨y1, y2⟩
      · omega
      · have := (qt_hm_iff b _ s).mp e2 0 y1
        rw [← this, hall 0 hn] at y2
        cases y2
    · rintro ⟨y1, y2, _⟩
      exact absurd ⟨y1, y2⟩ z
theorem qt_wl_k (b : Nat → Nat) (s l k : Nat) (h : ∀ i, i < 62 → (((qt_tx i).length = l ∧ qt_hm b s (qt_tx i) = true) ↔ i = k)) : ∀ n i cur, i + n = 62 → qt_wl b s l n i cur = if i ≤ k ∧ k < 62 then k else cur
  | 0, i, cur, hi => by
    unfold qt_wl
    rw [if_neg (by omega)]
  | n + 1, i, cur, hi => by
    unfold qt_wl
    rw [qt_wl_k b s l k h n (i + 1) _ (by omega)]
    by_cases z : i = k
    · rw [if_pos ((h i (by omega)).mpr z), if_neg (by omega), if_pos (by omega), z]
    · rw [if_neg (fun y => z ((h i (by omega)).mp y))]
      by_cases y : i + 1 ≤ k ∧ k < 62
      · rw [if_pos y, if_pos (by omega)]
      · rw [if_neg y, if_neg (by omega)]
theorem qt_wL_lk : ∀ j, j < 31 → qt_wL.lookup (qt_wL.getD j (0, 0)).1 = some (j + 5) := by decide
theorem qt_wL_no {v : Nat} (h : ∀ j, j < 31 → v ≠ (qt_wL.getD j (0, 0)).1) : qt_wL.lookup v = none := by
  have key : ∀ l : List (Nat × Nat), (∀ q ∈ l, v ≠ q.1) → l.lookup v = none := by
    intro l
    induction l with
    | nil => intro _; rfl
    | cons q l ih =>
      intro h
      obtain ⟨k, m⟩ := q
      rw [List.lookup_cons]
      have : (v == k) = false := by
        have := h (k, m) List.mem_cons_self
        exact beq_false_of_ne this
      rw [this]
      exact ih (fun q hq => h q (List.mem_cons_of_mem _ hq))
  refine key qt_wL (fun q hq => ?_)
  obtain ⟨j, hj, e⟩ := List.mem_iff_getElem.mp hq
  have := h j hj
  rw [List.getD_eq_getElem?_getD, List.getElem?_eq_getElem hj, Option.getD_some, e] at this
  exact this
theorem qt_wl_wm {s n : Nat} (hn : 0 < n) (hall : ∀ j, j < n → qt_le (b (s + j)) = true) : qt_wl b s n 62 0 4 = qt_wm (if n ≤ 12 then qt_wv b s n else 0) := by
  have hf := fun i (hi : i < 62) => qt_fit_w hn hall hi
  by_cases z : ∃ j, j < 31 ∧ n ≤ 12 ∧ qt_wv b s n = (qt_wL.getD j (0, 0)).1
  · obtain ⟨j, z1, z2, z3⟩ := z
    rw [if_pos z2, z3]
    unfold qt_wm
    rw [qt_wL_lk j z1, qt_wl_k b s n (j + 5) (fun i hi => ?_) 62 0 4 (by decide), if_pos (by omega)]
    · rfl
    · rw [hf i hi]
      constructor
      · rintro ⟨y1, y2, y3, y4⟩
        have e1 := qt_wL_lk j z1
        have e2 := qt_wL_lk (i - 5) (by omega)
        rw [← y4, z3, e1] at e2
        have := Option.some.inj e2
        omega
      · intro y
        exact ⟨by omega, by omega, z2, by rw [z3, y, Nat.add_sub_cancel]⟩
  · have hno : ∀ i, i < 62 → (((qt_tx i).length = n ∧ qt_hm b s (qt_tx i) = true) ↔ i = 62) := fun i hi => by
      rw [hf i hi]
      constructor
      · rintro ⟨y1, y2, y3, y4⟩
        exact absurd ⟨i - 5, by omega, y3, y4⟩ z
      · intro y; omega
    rw [qt_wl_k b s n 62 hno 62 0 4 (by decide), if_neg (by omega)]
    unfold qt_wm
    by_cases z2 : n ≤ 12
    · rw [if_pos z2, qt_wL_no (fun j hj y => z ⟨j, hj, z2, y⟩)]
      rfl
    · rw [if_neg z2]
      decide
end
