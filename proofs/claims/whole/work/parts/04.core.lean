/-! the world in four rows of numbers: ints, longs, doubles, references (255: null); an object's field k, or an array's place k, of the cell a -/
abbrev qcM : Type := (Nat → Nat → Int32) × (Nat → Nat → Int64) × (Nat → Nat → UInt64) × (Nat → Nat → Nat)
/-- cells so far (from 256 on), the kind of each, its length -/
abbrev qcW : Type := Nat × (Nat → Nat) × (Nat → Nat)
/-- classes and slots, array classes, where a cell lies, the first own address -/
abbrev qcG : Type := va_G × (Nat → ClassId) × (Nat → Nat) × Nat
abbrev qcC : Type := Nat × List (Nat × Value) × List Value × qcM
/-- owner's number, name, bytes, locals, answer's type -/
abbrev qcI : Type := Nat × MethodName × ByteArray × Nat × Option FieldType
def qc_own (g : qcG) : Nat → Prop := fun q => g.2.2.2 ≤ q
def qc_cv (f : Nat → Nat) (v : Value) : Value := match v with
  | .ref a => .ref (f a)
  | v => v
def qc_cp (f : Nat → Nat) (q : Nat × Value) : Nat × Value := (q.1, qc_cv f q.2)
def qc_rv (r : Nat) : Value := cond (Nat.beq r 255) .null (.ref r)
def qc_ro (f : Nat → Nat) (r : Nat) : Option Nat := cond (Nat.beq r 255) none (some (f r))
theorem qc_cat (f : Nat → Nat) (v : Value) : (qc_cv f v).category = v.category := by cases v <;> rfl
theorem qc_ro_rv (f : Nat → Nat) (r : Nat) : va_rf (qc_ro f r) = qc_cv f (qc_rv r) := by
  unfold qc_ro qc_rv
  cases Nat.beq r 255 <;> rfl
def qc_fv (f : Nat → Nat) (M : qcM) (a k t : Nat) : Value := match t with
  | 0 => .int (M.1 a k)
  | 1 => .long (M.2.1 a k)
  | 2 => .double (M.2.2.1 a k)
  | _ => qc_cv f (qc_rv (M.2.2.2 a k))
def qc_cell (g : qcG) (kd ln : Nat) (M : qcM) (a : Nat) : va_E := match kd with
  | 100 => .inl (g.2.1 0, ln, .inl (M.1 a))
  | 101 => .inl (g.2.1 1, ln, .inr (.inl (M.2.1 a)))
  | 102 => .inl (g.2.1 2, ln, .inr (.inr (.inr (.inl (M.2.2.1 a)))))
  | 103 => .inl (g.2.1 3, ln, .inr (.inr (.inr (.inr (fun k => qc_ro g.2.2.1 (M.2.2.2 a k))))))
  | 104 => .inl (g.2.1 4, ln, .inr (.inr (.inr (.inr (fun k => qc_ro g.2.2.1 (M.2.2.2 a k))))))
  | ci => .inr (ci, (List.range (qc_nf ci)).map (fun k => qc_fv g.2.2.1 M a k (qc_tc ci k)))
def qc_wl (g : qcG) (w : qcW) (M : qcM) : va_W := (List.range (w.1 - 256)).map (fun j => (g.2.2.2 + j, qc_cell g (w.2.1 (256 + j)) (w.2.2 (256 + j)) M (256 + j)))
def qc_ty (g : qcG) : List (ClassId × FieldType) := [(g.2.1 0, .int), (g.2.1 1, .long), (g.2.1 2, .double), (g.2.1 3, .object "QueryClasses$Code"), (g.2.1 4, .object "QueryClasses$Query")]
/-- the constants: marks (cells 0 to 61), the row of all (62), their texts (64 on) -/
def qc_SW (g : qcG) (U : State) (H : Heap) : Prop :=
  va_En "QueryClasses$Mark" "LQueryClasses$Mark;" qc_mkN [("java/lang/Enum", "ordinal", "I", qc_mk_ord), ("QueryClasses$Mark", "level", "I", qc_mk_level), ("QueryClasses$Mark", "op", "I", qc_mk_op), ("QueryClasses$Mark", "takes", "I", qc_mk_takes), ("QueryClasses$Mark", "wants", "I", qc_mk_wants)] g.2.2.1 (qc_own g) U H
  ∧ (∀ i, i < 62 → va_OF "QueryClasses$Mark" "text" "Ljava/lang/String;" (.ref (g.2.2.1 (64 + qc_mk_text.getD i 0))) (g.2.2.1 i) (qc_own g) U H)
  ∧ va_Z "QueryClasses$Mark" "ALL" "[LQueryClasses$Mark;" (.ref (g.2.2.1 62)) (qc_own g) U H
  ∧ va_T (.object "QueryClasses$Mark") (g.2.2.1 62) 62 (fun j => .ref (g.2.2.1 j)) (qc_own g) U H
  ∧ vk_S 58 qc_sxLen qc_sxB (fun i => g.2.2.1 (64 + i)) (fun i => g.2.2.1 (128 + i)) (qc_own g) U H
  ∧ va_Z "java/lang/String" "COMPACT_STRINGS" "Z" (.int 1) (qc_own g) U H
  ∧ (va_Z "jdk/internal/util/Preconditions" "SIOOBE_FORMATTER" "Ljava/util/function/BiFunction;" .null (qc_own g) U H ∨ va_Z "jdk/internal/util/Preconditions" "SIOOBE_FORMATTER" "Ljava/util/function/BiFunction;" (.ref (g.2.2.1 63)) (qc_own g) U H)
theorem qc_SW.moved {g : qcG} {u U : State} {H : Heap} (hvm : u.vm.Alike U.vm) (h : qc_SW g u H) : qc_SW g U H :=
  ⟨h.1.moved hvm, fun i hi => (h.2.1 i hi).moved hvm, h.2.2.1.moved hvm, h.2.2.2.1.moved hvm, h.2.2.2.2.1.moved hvm, h.2.2.2.2.2.1.moved hvm, h.2.2.2.2.2.2.imp (fun z => z.moved hvm) (fun z => z.moved hvm)⟩
theorem qc_SW.kept {g : qcG} {U : State} {H H1 : Heap} (h : qc_SW g U H) (hq : ∀ a : Nat, a < H.size → ¬ qc_own g a → H1[a]? = H[a]?) : qc_SW g U H1 :=
  ⟨h.1.kept hq, fun i hi => (h.2.1 i hi).kept hq, h.2.2.1.kept hq, h.2.2.2.1.kept hq, h.2.2.2.2.1.kept hq, h.2.2.2.2.2.1.kept hq, h.2.2.2.2.2.2.imp (fun z => z.kept hq) (fun z => z.kept hq)⟩
def qc_WD (g : qcG) (w : qcW) (M : qcM) (U : State) (H : Heap) : Prop :=
  256 ≤ w.1 ∧ H.size + 256 = g.2.2.2 + w.1 ∧ (∀ a, 256 ≤ a → g.2.2.1 a = g.2.2.2 + (a - 256)) ∧ va_P g.1 qcCl (qc_wl g w M) H ∧ va_K g.1 qcCl (qc_ty g) U ∧ (∀ a, a < w.1 → 256 ≤ a → a < qcNF → w.2.1 a = qc_kd a ∧ w.2.2 a = qc_ln a) ∧ qc_SW g U H
theorem qc_WD.moved {g : qcG} {w : qcW} {M : qcM} {u U : State} {H : Heap} (hvm : u.vm.Alike U.vm) (h : qc_WD g w M u H) : qc_WD g w M U H :=
  ⟨h.1, h.2.1, h.2.2.1, h.2.2.2.1, h.2.2.2.2.1.moved hvm, h.2.2.2.2.2.1, h.2.2.2.2.2.2.moved hvm⟩
theorem qc_wl_get (g : qcG) (w : qcW) (M : qcM) {a : Nat} (h0 : 256 ≤ a) (h : a < w.1) : (qc_wl g w M)[a - 256]? = some (g.2.2.2 + (a - 256), qc_cell g (w.2.1 a) (w.2.2 a) M a) := by
  unfold qc_wl
  rw [List.getElem?_map, List.getElem?_range (by omega)]
  simp only [Option.map_some]
  rw [show 256 + (a - 256) = a by omega]
theorem qc_wl_at (g : qcG) (w : qcW) (M : qcM) {k : Nat} {q : Nat × va_E} (h : (qc_wl g w M)[k]? = some q) : k < w.1 - 256 ∧ q = (g.2.2.2 + k, qc_cell g (w.2.1 (256 + k)) (w.2.2 (256 + k)) M (256 + k)) := by
  unfold qc_wl at h
  rw [List.getElem?_map] at h
  by_cases hk : k < w.1 - 256
  · rw [List.getElem?_range hk] at h
    simp only [Option.map_some, Option.some.injEq] at h
    exact ⟨hk, h.symm⟩
  · rw [List.getElem?_eq_none (by simp; omega)] at h
    simp at h
theorem qc_D (g : qcG) (w : qcW) (M : qcM) : va_D (qc_own g) (qc_wl g w M) := by
  refine ⟨fun i j p q hi hj e => ?_, fun k q hk => ?_⟩
  · obtain ⟨_, rfl⟩ := qc_wl_at g w M hi
    obtain ⟨_, rfl⟩ := qc_wl_at g w M hj
    have e : g.2.2.2 + i = g.2.2.2 + j := e
    omega
  · obtain ⟨_, rfl⟩ := qc_wl_at g w M hk
    exact Nat.le_add_right _ _
theorem qc_wl_len (g : qcG) (w : qcW) (M : qcM) : (qc_wl g w M).length = w.1 - 256 := by unfold qc_wl; rw [List.length_map, List.length_range]
theorem qc_wl_set (g : qcG) (w : qcW) (M M' : qcM) {a : Nat} (h0 : 256 ≤ a) (h : a < w.1) (he : va_E) (h1 : qc_cell g (w.2.1 a) (w.2.2 a) M' a = he) (h2 : ∀ b, b ≠ a → qc_cell g (w.2.1 b) (w.2.2 b) M' b = qc_cell g (w.2.1 b) (w.2.2 b) M b) :
    (qc_wl g w M).set (a - 256) (g.2.2.2 + (a - 256), he) = qc_wl g w M' := by
  apply List.ext_getElem?
  intro k
  by_cases hk : k = a - 256
  · have hl : a - 256 < (qc_wl g w M).length := by rw [qc_wl_len]; omega
    rw [hk, List.getElem?_set_self hl, qc_wl_get g w M' h0 h, h1]
  · rw [List.getElem?_set_ne (Ne.symm hk)]
    unfold qc_wl
    rw [List.getElem?_map, List.getElem?_map]
    by_cases hl : k < w.1 - 256
    · rw [List.getElem?_range hl]
      simp only [Option.map_some]
      rw [h2 (256 + k) (by omega)]
    · rw [List.getElem?_eq_none (by rw [List.length_range]; omega)]
      rfl
/-! the judgement: from here the machine comes to QQ, whatever heap holds this world -/
def qc_wg : List Cond := lw_tbl.filter goodWord
def qc_nwL : List Cond := lw_tbl.filter (fun w => match w with | .fieldLinkNest _ _ _ _ _ _ => true | _ => false)
def qc_NW (U : State) : Prop := (∀ w ∈ qc_nwL, va_Nw w U) ∧ va_AO "QueryClasses$Code" U ∧ va_AO "QueryClasses$Query" U
theorem qc_nw_form {w : Cond} (h : w ∈ qc_nwL) : ∃ a i b n d t, w = .fieldLinkNest a i b n d t := by
  have h := (List.mem_filter.mp h).2
  cases w <;> first | exact ⟨_, _, _, _, _, _, rfl⟩ | cases h
theorem qc_NW.warm {s U : State} (hW : s.WarmedH U.vm) (h : qc_NW s) : qc_NW U := by
  refine ⟨fun w hw => ?_, h.2.1.moved hW.alike, h.2.2.moved hW.alike⟩
  have h1 := h.1 w hw
  obtain ⟨a, i, b, n, d, t, rfl⟩ := qc_nw_form hw
  exact va_Nw.warmF hW h1
theorem qc_NW.same {u U : State} (hv : u.vm = U.vm) (h : qc_NW u) : qc_NW U := by
  have hal : u.vm.Alike U.vm := hv ▸ Vm.Alike.refl _
  refine ⟨fun w hw => ?_, h.2.1.moved hal, h.2.2.moved hal⟩
  have h1 := h.1 w hw
  obtain ⟨a, i, b, n, d, t, rfl⟩ := qc_nw_form hw
  exact va_Nw.same rfl hv h1
def qc_ws (mi : qcI) : List Cond := .code mi.2.1 mi.2.2.1 mi.2.2.2.1 mi.2.2.2.2 :: qc_wg
def qc_rm (d mc ms : Nat) : Room := { frames := d, cells := mc, slots := ms, locals := 64 * d }
def qc_CX (mi : qcI) (p : Program) (s : State) (m : MethodId) (args : Array Value) (meth : Method) (c : Code) : Prop :=
  p.tables.exec = Jvm.exec ∧ c.code = mi.2.2.1 ∧ meth.sig.returnType = mi.2.2.2.2 ∧ c.maxLocals = mi.2.2.2.1 ∧ s.vm.findClass (qc_nm mi.1) = some m.cls ∧ (∀ w ∈ qc_wg, w.before args s = true) ∧ meth.locks = false ∧ meth.name = mi.2.1.name ∧ qc_NW s
abbrev qcQ : Type := qcG → List Frame → Array Value → State → State → Prop
def qc_X (R : Room) (mi : qcI) (QQ : qcQ) (cu su : Nat) (w : qcW) (c : qcC) : Prop :=
  ∀ (p : Program) (l : Launch) (e : Env) (s : State) (m : MethodId) (args : Array Value) (below : List Frame) (meth : Method) (c0 : Code) (g : qcG) (H : Heap) (locs : List Loc) (ls : Array Slot),
    qc_CX mi p s m args meth c0 → (qc_WD g w c.2.2.2 s H ∧ g.2.2.2 ≤ s.heap.size) → va_S (qc_own g) s.heap H locs → lv_has ls mi.2.2.2.1 (c.2.1.map (qc_cp g.2.2.1)) →
    W p l e R s m args below meth c0 H locs cu su (QQ g below args s) (F0 m c.1 ls (c.2.2.1.map (qc_cv g.2.2.1)))
/-- a method's end: its answer, the world behind it -/
abbrev qcZ : Type := Option Value → qcW → qcM → Prop
def qc_Q (Z : qcZ) (g : qcG) : Array Value → State → Outcome → State → Prop := fun _ st oc t => (∃ (r : Option Value) (w : qcW) (M : qcM), oc = .returned (r.map (qc_cv g.2.2.1)) ∧ Z r w M ∧ qc_WD g w M t t.heap) ∧ va_F (qc_own g) st t
def qc_QM (mc ms : Nat) (Z : qcZ) : qcQ := fun g below args s => MQ below (qc_Q Z g) args s mc ms (qc_own g)
def qc_P (g : qcG) (as : List Value) (w : qcW) (M : qcM) : Array Value → State → Prop := va_Pc (as.map (qc_cv g.2.2.1)) (fun U => qc_WD g w M U U.heap ∧ qc_NW U)
/-- a method's contract -/
def qc_V (d mc ms : Nat) (mi : qcI) (as : List Value) (w : qcW) (M : qcM) (Z : qcZ) : Prop :=
  ∀ (l : Launch) (g : qcG), Met l mi.2.1 (qc_ws mi) (qc_rm d mc ms) (qc_P g as w M) (qc_Q Z g) mc ms (qc_own g)
theorem qc_lv_args (f : Nat → Nat) : ∀ (as : List Value) (k : Nat), lv_args k (as.map (qc_cv f)) = (lv_args k as).map (qc_cp f)
  | [], k => rfl
  | v :: r, k => by
    simp only [List.map_cons, lv_args, qc_cat, qc_lv_args f r, qc_cp]
theorem qc_lg_len (f : Nat → Nat) : ∀ (as : List Value), (lg_sl (as.map (qc_cv f))).length = (lg_sl as).length
  | [] => rfl
  | v :: r => by
    have ih := qc_lg_len f r
    unfold lg_sl at ih ⊢
    simp only [List.map_cons, List.flatMap_cons, List.length_append, qc_cat, ih]
    split <;> rfl
/-- a method by its body -/
theorem qc_V.of {d mc ms : Nat} {mi : qcI} {as : List Value} {w : qcW} {M : qcM} {Z : qcZ} (hy : plainName mi.2.1.cls = true) (ho : mi.2.1.cls = qc_nm mi.1) (hn : (lg_sl as).length ≤ mi.2.2.2.1) {lv : List (Nat × Value)} (hl : lv_args 0 as = lv)
    (h : qc_X (qc_rm d mc ms) mi (qc_QM mc ms Z) 0 0 w (0, lv, [], M)) : qc_V d mc ms mi as w M Z := by
  intro l g
  refine Met.ofW (cc := mi.2.2.1) (maxL := mi.2.2.2.1) (ret := mi.2.2.2.2) hy rfl ?_
  intro p e s m args below meth c s₁ B hml hv
  obtain ⟨rfl, hW, hN⟩ := hv
  have hts : ∀ w ∈ qc_wg, w.before _ s = true := fun w hw => atoms_spec (ws := qc_ws mi) B.pre w (List.mem_cons_of_mem _ hw)
  have hown : s.vm.findClass mi.2.1.cls = some m.cls := findClass_of_methodNamed B.named
  have hlen : (lg_sl (as.map (qc_cv g.2.2.1))).length ≤ mi.2.2.2.1 := by rw [qc_lg_len]; exact hn
  have hl2 := lv_entry (as.map (qc_cv g.2.2.1)) (n := mi.2.2.2.1) hlen
  rw [lg_entry_eq]
  generalize (lg_sl (as.map (qc_cv g.2.2.1)) ++ List.replicate (mi.2.2.2.1 - (lg_sl (as.map (qc_cv g.2.2.1))).length) Slot.unset).toArray = ls at hl2 ⊢
  rw [qc_lv_args, hl] at hl2
  exact h p l e s m _ below meth c g s.heap [] ls ⟨B.exec, B.bytes, B.returns, hml, by rw [← ho]; exact hown, hts, B.notSynchronized, (name_of_methodNamed B.named B.method).1, hN⟩ ⟨hW, by have h1 := hW.1; have h2 := hW.2.1; omega⟩ va_S.rf hl2
theorem qc_P_blind (g : qcG) (as : List Value) (w : qcW) (M : qcM) : FrameBlind (qc_P g as w M) := by
  intro a U fr mk h
  obtain ⟨h1, h2, h3⟩ := h
  exact ⟨h1, h2.moved (u := U) (U := U.calling fr mk a) (Vm.Alike.refl U.vm), qc_NW.same (u := U) (U := U.calling fr mk a) rfl h3⟩
