/-! an instruction at its place: pc, the next pc, the instruction, two numbers and a value beside it -/
abbrev qcE : Type := Nat × Nat × Instr × Nat × Nat × Value
def qc_word (q : Nat × Nat × Nat × Nat × Bool × Nat) : Cond :=
  match qcCl[q.2.2.1]? with
  | some c => cond q.2.2.2.2.1 (.fieldLinkNest (qc_nm q.1) q.2.1 c.1 (c.2.1 q.2.2.2.1).2.1 (c.2.1 q.2.2.2.1).2.2.1 "QueryClasses") (.fieldLink (qc_nm q.1) q.2.1 c.1 (c.2.1 q.2.2.2.1).2.1 (c.2.1 q.2.2.2.1).2.2.1)
  | none => .tt
def qc_cword (q : Nat × Nat × Value × Nat) : Cond :=
  match q.2.2.1 with
  | .int v => .constant (qc_nm q.1) q.2.1 v
  | .long v => .constantLong (qc_nm q.1) q.2.1 v
  | .double v => .constantDouble (qc_nm q.1) q.2.1 v
  | _ => .tt
set_option maxRecDepth 20000 in
theorem qc_flL_ok : qc_flL.all (fun q => decide (lw_tbl[q.2.2.2.2.2]? = some (qc_word q))) = true := by decide +kernel
set_option maxRecDepth 20000 in
theorem qc_ckL_ok : qc_ckL.all (fun q => decide (lw_tbl[q.2.2.2]? = some (qc_cword q)) && goodWord (qc_cword q)) = true := by decide +kernel
def qc_aux (o : Nat) (i : Instr) (a b : Nat) (v : Value) : Bool := match i with
  | .getfield n => qc_flL.any (fun q => Nat.beq q.1 o && Nat.beq q.2.1 n && Nat.beq q.2.2.1 a && Nat.beq q.2.2.2.1 b) || (Nat.beq a 50 && qc_mgL.any (fun q => Nat.beq q.1 o && Nat.beq q.2.1 n && Nat.beq q.2.2.1 b)) || Nat.beq a 51
  | .putfield n => qc_flL.any (fun q => Nat.beq q.1 o && Nat.beq q.2.1 n && Nat.beq q.2.2.1 a && Nat.beq q.2.2.2.1 b)
  | .getstatic n => qc_sgL.any (fun q => Nat.beq q.1 o && Nat.beq q.2.1 n && Nat.beq q.2.2.1 a) || Nat.beq a 63
  | .iconst n => decide (v = .int (Int32.ofInt n))
  | .bipush n => decide (v = .int (Int8.ofInt n).toInt32)
  | .sipush n => decide (v = .int (Int16.ofInt n).toInt32)
  | .lconst n => decide (v = .long (Int64.ofNat n))
  | .dconst n => decide (v = .double (if n = 0 then FP.dconst0 else FP.dconst1))
  | .ldc n => qc_ckL.any (fun q => Nat.beq q.1 o && Nat.beq q.2.1 n && decide (q.2.2.1 = v))
  | .ldc2_w n => qc_ckL.any (fun q => Nat.beq q.1 o && Nat.beq q.2.1 n && decide (q.2.2.1 = v))
  | .iinc _ n => decide (v = .int (Int32.ofInt n))
  | .goto n => decide ((a : Int) = (b : Int) + n)
  | .ifCond _ n => decide ((a : Int) = (b : Int) + n)
  | .if_icmp _ n => decide ((a : Int) = (b : Int) + n)
  | .if_acmp _ n => decide ((a : Int) = (b : Int) + n)
  | .ifnull n => decide ((a : Int) = (b : Int) + n)
  | .ifnonnull n => decide ((a : Int) = (b : Int) + n)
  | _ => true
def qc_il (i : Instr) : Nat := match i with
  | .aload _ => 2 | .astore _ => 2 | .iload _ => 2 | .istore _ => 2 | .lload _ => 2 | .lstore _ => 2 | .dload _ => 2 | .dstore _ => 2 | .fload _ => 2 | .fstore _ => 2 | .bipush _ => 2 | .ldc _ => 2 | .newarray _ => 2
  | .sipush _ => 3 | .iinc _ _ => 3 | .ldc2_w _ => 3 | .goto _ => 3 | .ifCond _ _ => 3 | .if_icmp _ _ => 3 | .if_acmp _ _ => 3 | .ifnull _ => 3 | .ifnonnull _ => 3 | .getfield _ => 3 | .putfield _ => 3 | .getstatic _ => 3 | .putstatic _ => 3 | .invokevirtual _ => 3 | .invokespecial _ => 3 | .invokestatic _ => 3 | .new _ => 3 | .anewarray _ => 3 | .checkcast _ => 3 | .instanceof _ => 3
  | .tableswitch _ _ _ _ => 0 | .lookupswitch _ _ => 0 | .invokedynamic _ => 0 | .invokeinterface _ _ => 0 | .multianewarray _ _ => 0 | .goto_w _ => 0 | .jsr _ => 0 | .jsr_w _ => 0 | .ldc_w _ => 0 | .ret _ => 0
  | _ => 1
def qc_ok (mi : qcI) (e : qcE) : Bool := decide (e.1 ≤ e.2.1) && (Nat.beq (qc_il e.2.2.1) 0 || Nat.beq e.2.1 (e.1 + qc_il e.2.2.1)) && decide (decode mi.2.2.1 e.1 = .ok (e.2.2.1, e.2.1 - e.1)) && qc_aux mi.1 e.2.2.1 e.2.2.2.1 e.2.2.2.2.1 e.2.2.2.2.2
/-- the entry e stands in mi's code -/
def qc_d (mi : qcI) (e : qcE) : Prop := qc_ok mi e = true
theorem qc_at {mi : qcI} {tb : List qcE} (h : tb.all (qc_ok mi) = true) (i : Nat) {e : qcE} (he : tb[i]? = some e) : qc_d mi e := List.all_eq_true.mp h e (List.mem_of_getElem? he)
theorem qc_d.of {mi : qcI} {pc pc' a b n : Nat} {i : Instr} {v : Value} (h : qc_d mi (pc, pc', i, a, b, v)) (hl : qc_il i = n + 1) : pc' = pc + (n + 1) ∧ decode mi.2.2.1 pc = .ok (i, n + 1) := by
  unfold qc_d qc_ok at h
  simp only [Bool.and_eq_true, decide_eq_true_eq, hl] at h
  obtain ⟨⟨⟨h1, h2⟩, h3⟩, -⟩ := h
  have h4 : pc' = pc + (n + 1) := Nat.eq_of_beq_eq_true (by simpa using h2)
  subst h4
  exact ⟨rfl, by rw [h3]; simp⟩
theorem qc_d.aux {mi : qcI} {pc pc' a b : Nat} {i : Instr} {v : Value} (h : qc_d mi (pc, pc', i, a, b, v)) : qc_aux mi.1 i a b v = true := by
  unfold qc_d qc_ok at h
  simp only [Bool.and_eq_true] at h
  exact h.2
def qc_lk : Nat → List (Nat × Value) → Option Value
  | _, [] => none
  | i, q :: r => cond (Nat.beq q.1 i) (some q.2) (qc_lk i r)
theorem qc_lk_mem {i : Nat} {x : Value} : ∀ {lv : List (Nat × Value)}, qc_lk i lv = some x → (i, x) ∈ lv
  | [], h => by cases h
  | q :: r, h => by
    unfold qc_lk at h
    cases hb : Nat.beq q.1 i with
    | true =>
      rw [hb] at h
      have h1 := Nat.eq_of_beq_eq_true hb
      cases h
      rw [← h1]
      exact List.mem_cons_self
    | false =>
      rw [hb] at h
      exact List.mem_cons_of_mem _ (qc_lk_mem h)
theorem qc_lk_at {i nL : Nat} {x : Value} {lv : List (Nat × Value)} {f : Nat → Nat} {ls : Array Slot} (h : qc_lk i lv = some x) (hl : lv_has ls nL (lv.map (qc_cp f))) : ls[i]? = some (.val (qc_cv f x)) := hl.2.2 (i, qc_cv f x) (List.mem_map.mpr ⟨(i, x), qc_lk_mem h, rfl⟩)

section QCR
variable {R : Room} {mi : qcI} {QQ : qcQ} {cu su : Nat} {w : qcW} {pc pc' : Nat} {lv : List (Nat × Value)} {st : List Value} {M : qcM}
theorem qc_iadd {x y : Int32} {a b : Nat} {v : Value} (hd : qc_d mi (pc, pc', .iadd, a, b, v)) (k : qc_X R mi QQ cu su w (pc', lv, .int (x + y) :: st, M)) : qc_X R mi QQ cu su w (pc, lv, .int y :: .int x :: st, M) := by
  obtain ⟨rfl, hdg⟩ := hd.of (n := 0) rfl
  intro p l e s m args below meth c0 g H locs ls C D S L
  exact lv_iadd C.1 C.2.1 hdg (k p l e s m args below meth c0 g H locs ls C D S L)
theorem qc_isub {x y : Int32} {a b : Nat} {v : Value} (hd : qc_d mi (pc, pc', .isub, a, b, v)) (k : qc_X R mi QQ cu su w (pc', lv, .int (x - y) :: st, M)) : qc_X R mi QQ cu su w (pc, lv, .int y :: .int x :: st, M) := by
  obtain ⟨rfl, hdg⟩ := hd.of (n := 0) rfl
  intro p l e s m args below meth c0 g H locs ls C D S L
  exact lv_isub C.1 C.2.1 hdg (k p l e s m args below meth c0 g H locs ls C D S L)
theorem qc_imul {x y : Int32} {a b : Nat} {v : Value} (hd : qc_d mi (pc, pc', .imul, a, b, v)) (k : qc_X R mi QQ cu su w (pc', lv, .int (x * y) :: st, M)) : qc_X R mi QQ cu su w (pc, lv, .int y :: .int x :: st, M) := by
  obtain ⟨rfl, hdg⟩ := hd.of (n := 0) rfl
  intro p l e s m args below meth c0 g H locs ls C D S L
  exact lv_imul C.1 C.2.1 hdg (k p l e s m args below meth c0 g H locs ls C D S L)
theorem qc_iand {x y : Int32} {a b : Nat} {v : Value} (hd : qc_d mi (pc, pc', .iand, a, b, v)) (k : qc_X R mi QQ cu su w (pc', lv, .int (x &&& y) :: st, M)) : qc_X R mi QQ cu su w (pc, lv, .int y :: .int x :: st, M) := by
  obtain ⟨rfl, hdg⟩ := hd.of (n := 0) rfl
  intro p l e s m args below meth c0 g H locs ls C D S L
  exact lv_iand C.1 C.2.1 hdg (k p l e s m args below meth c0 g H locs ls C D S L)
theorem qc_ior {x y : Int32} {a b : Nat} {v : Value} (hd : qc_d mi (pc, pc', .ior, a, b, v)) (k : qc_X R mi QQ cu su w (pc', lv, .int (x ||| y) :: st, M)) : qc_X R mi QQ cu su w (pc, lv, .int y :: .int x :: st, M) := by
  obtain ⟨rfl, hdg⟩ := hd.of (n := 0) rfl
  intro p l e s m args below meth c0 g H locs ls C D S L
  exact lv_ior C.1 C.2.1 hdg (k p l e s m args below meth c0 g H locs ls C D S L)
theorem qc_ixor {x y : Int32} {a b : Nat} {v : Value} (hd : qc_d mi (pc, pc', .ixor, a, b, v)) (k : qc_X R mi QQ cu su w (pc', lv, .int (x ^^^ y) :: st, M)) : qc_X R mi QQ cu su w (pc, lv, .int y :: .int x :: st, M) := by
  obtain ⟨rfl, hdg⟩ := hd.of (n := 0) rfl
  intro p l e s m args below meth c0 g H locs ls C D S L
  exact lv_ixor C.1 C.2.1 hdg (k p l e s m args below meth c0 g H locs ls C D S L)
theorem qc_ishl {x y : Int32} {a b : Nat} {v : Value} (hd : qc_d mi (pc, pc', .ishl, a, b, v)) (k : qc_X R mi QQ cu su w (pc', lv, .int (x <<< (y &&& 31)) :: st, M)) : qc_X R mi QQ cu su w (pc, lv, .int y :: .int x :: st, M) := by
  obtain ⟨rfl, hdg⟩ := hd.of (n := 0) rfl
  intro p l e s m args below meth c0 g H locs ls C D S L
  exact lv_ishl C.1 C.2.1 hdg (k p l e s m args below meth c0 g H locs ls C D S L)
theorem qc_ishr {x y : Int32} {a b : Nat} {v : Value} (hd : qc_d mi (pc, pc', .ishr, a, b, v)) (k : qc_X R mi QQ cu su w (pc', lv, .int (x >>> (y &&& 31)) :: st, M)) : qc_X R mi QQ cu su w (pc, lv, .int y :: .int x :: st, M) := by
  obtain ⟨rfl, hdg⟩ := hd.of (n := 0) rfl
  intro p l e s m args below meth c0 g H locs ls C D S L
  exact lv_ishr C.1 C.2.1 hdg (k p l e s m args below meth c0 g H locs ls C D S L)
theorem qc_idiv {x y : Int32} {a b : Nat} {v : Value} (hd : qc_d mi (pc, pc', .idiv, a, b, v)) (hne : ¬ y = 0) (k : qc_X R mi QQ cu su w (pc', lv, .int (x / y) :: st, M)) : qc_X R mi QQ cu su w (pc, lv, .int y :: .int x :: st, M) := by
  obtain ⟨rfl, hdg⟩ := hd.of (n := 0) rfl
  intro p l e s m args below meth c0 g H locs ls C D S L
  exact lv_idiv C.1 C.2.1 hdg hne (k p l e s m args below meth c0 g H locs ls C D S L)
theorem qc_irem {x y : Int32} {a b : Nat} {v : Value} (hd : qc_d mi (pc, pc', .irem, a, b, v)) (hne : ¬ y = 0) (k : qc_X R mi QQ cu su w (pc', lv, .int (x - x / y * y) :: st, M)) : qc_X R mi QQ cu su w (pc, lv, .int y :: .int x :: st, M) := by
  obtain ⟨rfl, hdg⟩ := hd.of (n := 0) rfl
  intro p l e s m args below meth c0 g H locs ls C D S L
  exact lv_irem C.1 C.2.1 hdg hne (k p l e s m args below meth c0 g H locs ls C D S L)
theorem qc_ineg {x : Int32} {a b : Nat} {v : Value} (hd : qc_d mi (pc, pc', .ineg, a, b, v)) (k : qc_X R mi QQ cu su w (pc', lv, .int (-x) :: st, M)) : qc_X R mi QQ cu su w (pc, lv, .int x :: st, M) := by
  obtain ⟨rfl, hdg⟩ := hd.of (n := 0) rfl
  intro p l e s m args below meth c0 g H locs ls C D S L
  exact lv_ineg C.1 C.2.1 hdg (k p l e s m args below meth c0 g H locs ls C D S L)
theorem qc_iushr {x y : Int32} {a b : Nat} {v : Value} (hd : qc_d mi (pc, pc', .iushr, a, b, v)) (k : qc_X R mi QQ cu su w (pc', lv, .int (x.toUInt32 >>> (y.toUInt32 &&& Int32.toUInt32 31)).toInt32 :: st, M)) : qc_X R mi QQ cu su w (pc, lv, .int y :: .int x :: st, M) := by
  obtain ⟨rfl, hdg⟩ := hd.of (n := 0) rfl
  intro p l e s m args below meth c0 g H locs ls C D S L
  exact lv_iushr C.1 C.2.1 hdg rfl (k p l e s m args below meth c0 g H locs ls C D S L)
theorem qc_ladd {x y : Int64} {a b : Nat} {v : Value} (hd : qc_d mi (pc, pc', .ladd, a, b, v)) (k : qc_X R mi QQ cu su w (pc', lv, .long (x + y) :: st, M)) : qc_X R mi QQ cu su w (pc, lv, .long y :: .long x :: st, M) := by
  obtain ⟨rfl, hdg⟩ := hd.of (n := 0) rfl
  intro p l e s m args below meth c0 g H locs ls C D S L
  exact lv_ladd C.1 C.2.1 hdg (k p l e s m args below meth c0 g H locs ls C D S L)
theorem qc_lsub {x y : Int64} {a b : Nat} {v : Value} (hd : qc_d mi (pc, pc', .lsub, a, b, v)) (k : qc_X R mi QQ cu su w (pc', lv, .long (x - y) :: st, M)) : qc_X R mi QQ cu su w (pc, lv, .long y :: .long x :: st, M) := by
  obtain ⟨rfl, hdg⟩ := hd.of (n := 0) rfl
  intro p l e s m args below meth c0 g H locs ls C D S L
  exact lv_lsub C.1 C.2.1 hdg (k p l e s m args below meth c0 g H locs ls C D S L)
theorem qc_lmul {x y : Int64} {a b : Nat} {v : Value} (hd : qc_d mi (pc, pc', .lmul, a, b, v)) (k : qc_X R mi QQ cu su w (pc', lv, .long (x * y) :: st, M)) : qc_X R mi QQ cu su w (pc, lv, .long y :: .long x :: st, M) := by
  obtain ⟨rfl, hdg⟩ := hd.of (n := 0) rfl
  intro p l e s m args below meth c0 g H locs ls C D S L
  exact lv_lmul C.1 C.2.1 hdg (k p l e s m args below meth c0 g H locs ls C D S L)
theorem qc_land {x y : Int64} {a b : Nat} {v : Value} (hd : qc_d mi (pc, pc', .land, a, b, v)) (k : qc_X R mi QQ cu su w (pc', lv, .long (x &&& y) :: st, M)) : qc_X R mi QQ cu su w (pc, lv, .long y :: .long x :: st, M) := by
  obtain ⟨rfl, hdg⟩ := hd.of (n := 0) rfl
  intro p l e s m args below meth c0 g H locs ls C D S L
  exact lv_land C.1 C.2.1 hdg (k p l e s m args below meth c0 g H locs ls C D S L)
theorem qc_lor {x y : Int64} {a b : Nat} {v : Value} (hd : qc_d mi (pc, pc', .lor, a, b, v)) (k : qc_X R mi QQ cu su w (pc', lv, .long (x ||| y) :: st, M)) : qc_X R mi QQ cu su w (pc, lv, .long y :: .long x :: st, M) := by
  obtain ⟨rfl, hdg⟩ := hd.of (n := 0) rfl
  intro p l e s m args below meth c0 g H locs ls C D S L
  exact lv_lor C.1 C.2.1 hdg (k p l e s m args below meth c0 g H locs ls C D S L)
theorem qc_lxor {x y : Int64} {a b : Nat} {v : Value} (hd : qc_d mi (pc, pc', .lxor, a, b, v)) (k : qc_X R mi QQ cu su w (pc', lv, .long (x ^^^ y) :: st, M)) : qc_X R mi QQ cu su w (pc, lv, .long y :: .long x :: st, M) := by
  obtain ⟨rfl, hdg⟩ := hd.of (n := 0) rfl
  intro p l e s m args below meth c0 g H locs ls C D S L
  exact lv_lxor C.1 C.2.1 hdg (k p l e s m args below meth c0 g H locs ls C D S L)
theorem qc_ldiv {x y : Int64} {a b : Nat} {v : Value} (hd : qc_d mi (pc, pc', .ldiv, a, b, v)) (hne : ¬ y = 0) (k : qc_X R mi QQ cu su w (pc', lv, .long (x / y) :: st, M)) : qc_X R mi QQ cu su w (pc, lv, .long y :: .long x :: st, M) := by
  obtain ⟨rfl, hdg⟩ := hd.of (n := 0) rfl
  intro p l e s m args below meth c0 g H locs ls C D S L
  exact lv_ldiv C.1 C.2.1 hdg hne (k p l e s m args below meth c0 g H locs ls C D S L)
theorem qc_lrem {x y : Int64} {a b : Nat} {v : Value} (hd : qc_d mi (pc, pc', .lrem, a, b, v)) (hne : ¬ y = 0) (k : qc_X R mi QQ cu su w (pc', lv, .long (x - x / y * y) :: st, M)) : qc_X R mi QQ cu su w (pc, lv, .long y :: .long x :: st, M) := by
  obtain ⟨rfl, hdg⟩ := hd.of (n := 0) rfl
  intro p l e s m args below meth c0 g H locs ls C D S L
  exact lv_lrem C.1 C.2.1 hdg hne (k p l e s m args below meth c0 g H locs ls C D S L)
theorem qc_lneg {x : Int64} {a b : Nat} {v : Value} (hd : qc_d mi (pc, pc', .lneg, a, b, v)) (k : qc_X R mi QQ cu su w (pc', lv, .long (-x) :: st, M)) : qc_X R mi QQ cu su w (pc, lv, .long x :: st, M) := by
  obtain ⟨rfl, hdg⟩ := hd.of (n := 0) rfl
  intro p l e s m args below meth c0 g H locs ls C D S L
  exact lv_lneg C.1 C.2.1 hdg (k p l e s m args below meth c0 g H locs ls C D S L)
theorem qc_lshl {x : Int64} {y : Int32} {a b : Nat} {v : Value} (hd : qc_d mi (pc, pc', .lshl, a, b, v)) (k : qc_X R mi QQ cu su w (pc', lv, .long (x <<< (y.toInt64 &&& 63)) :: st, M)) : qc_X R mi QQ cu su w (pc, lv, .int y :: .long x :: st, M) := by
  obtain ⟨rfl, hdg⟩ := hd.of (n := 0) rfl
  intro p l e s m args below meth c0 g H locs ls C D S L
  exact lv_lshl C.1 C.2.1 hdg rfl (k p l e s m args below meth c0 g H locs ls C D S L)
theorem qc_lshr {x : Int64} {y : Int32} {a b : Nat} {v : Value} (hd : qc_d mi (pc, pc', .lshr, a, b, v)) (k : qc_X R mi QQ cu su w (pc', lv, .long (x >>> (y.toInt64 &&& 63)) :: st, M)) : qc_X R mi QQ cu su w (pc, lv, .int y :: .long x :: st, M) := by
  obtain ⟨rfl, hdg⟩ := hd.of (n := 0) rfl
  intro p l e s m args below meth c0 g H locs ls C D S L
  exact lv_lshr C.1 C.2.1 hdg rfl (k p l e s m args below meth c0 g H locs ls C D S L)
theorem qc_lushr {x : Int64} {y : Int32} {a b : Nat} {v : Value} (hd : qc_d mi (pc, pc', .lushr, a, b, v)) (k : qc_X R mi QQ cu su w (pc', lv, .long (x.toUInt64 >>> (y.toInt64.toUInt64 &&& Int64.toUInt64 63)).toInt64 :: st, M)) : qc_X R mi QQ cu su w (pc, lv, .int y :: .long x :: st, M) := by
  obtain ⟨rfl, hdg⟩ := hd.of (n := 0) rfl
  intro p l e s m args below meth c0 g H locs ls C D S L
  exact lv_lushr C.1 C.2.1 hdg rfl (k p l e s m args below meth c0 g H locs ls C D S L)
theorem qc_lcmp {x y : Int64} {a b : Nat} {v : Value} (hd : qc_d mi (pc, pc', .lcmp, a, b, v)) (k : qc_X R mi QQ cu su w (pc', lv, .int (lg_cmp x y) :: st, M)) : qc_X R mi QQ cu su w (pc, lv, .long y :: .long x :: st, M) := by
  obtain ⟨rfl, hdg⟩ := hd.of (n := 0) rfl
  intro p l e s m args below meth c0 g H locs ls C D S L
  exact W.lcmp C.1 C.2.1 hdg (k p l e s m args below meth c0 g H locs ls C D S L)
theorem qc_i2l {x : Int32} {a b : Nat} {v : Value} (hd : qc_d mi (pc, pc', .i2l, a, b, v)) (k : qc_X R mi QQ cu su w (pc', lv, .long x.toInt64 :: st, M)) : qc_X R mi QQ cu su w (pc, lv, .int x :: st, M) := by
  obtain ⟨rfl, hdg⟩ := hd.of (n := 0) rfl
  intro p l e s m args below meth c0 g H locs ls C D S L
  exact lv_i2l C.1 C.2.1 hdg rfl (k p l e s m args below meth c0 g H locs ls C D S L)
theorem qc_i2b {x : Int32} {a b : Nat} {v : Value} (hd : qc_d mi (pc, pc', .i2b, a, b, v)) (k : qc_X R mi QQ cu su w (pc', lv, .int x.toInt8.toInt32 :: st, M)) : qc_X R mi QQ cu su w (pc, lv, .int x :: st, M) := by
  obtain ⟨rfl, hdg⟩ := hd.of (n := 0) rfl
  intro p l e s m args below meth c0 g H locs ls C D S L
  exact lv_i2b C.1 C.2.1 hdg rfl (k p l e s m args below meth c0 g H locs ls C D S L)
theorem qc_i2s {x : Int32} {a b : Nat} {v : Value} (hd : qc_d mi (pc, pc', .i2s, a, b, v)) (k : qc_X R mi QQ cu su w (pc', lv, .int x.toInt16.toInt32 :: st, M)) : qc_X R mi QQ cu su w (pc, lv, .int x :: st, M) := by
  obtain ⟨rfl, hdg⟩ := hd.of (n := 0) rfl
  intro p l e s m args below meth c0 g H locs ls C D S L
  exact lv_i2s C.1 C.2.1 hdg rfl (k p l e s m args below meth c0 g H locs ls C D S L)
theorem qc_i2c {x : Int32} {a b : Nat} {v : Value} (hd : qc_d mi (pc, pc', .i2c, a, b, v)) (k : qc_X R mi QQ cu su w (pc', lv, .int (x.toUInt32 % 65536).toInt32 :: st, M)) : qc_X R mi QQ cu su w (pc, lv, .int x :: st, M) := by
  obtain ⟨rfl, hdg⟩ := hd.of (n := 0) rfl
  intro p l e s m args below meth c0 g H locs ls C D S L
  exact lv_i2c C.1 C.2.1 hdg rfl (k p l e s m args below meth c0 g H locs ls C D S L)
theorem qc_l2i {x : Int64} {a b : Nat} {v : Value} (hd : qc_d mi (pc, pc', .l2i, a, b, v)) (k : qc_X R mi QQ cu su w (pc', lv, .int x.toInt32 :: st, M)) : qc_X R mi QQ cu su w (pc, lv, .long x :: st, M) := by
  obtain ⟨rfl, hdg⟩ := hd.of (n := 0) rfl
  intro p l e s m args below meth c0 g H locs ls C D S L
  exact lv_l2i C.1 C.2.1 hdg rfl (k p l e s m args below meth c0 g H locs ls C D S L)
theorem qc_i2d {x : Int32} {a b : Nat} {v : Value} (hd : qc_d mi (pc, pc', .i2d, a, b, v)) (k : qc_X R mi QQ cu su w (pc', lv, .double (FP.i2d x) :: st, M)) : qc_X R mi QQ cu su w (pc, lv, .int x :: st, M) := by
  obtain ⟨rfl, hdg⟩ := hd.of (n := 0) rfl
  intro p l e s m args below meth c0 g H locs ls C D S L
  exact lv_i2d C.1 C.2.1 hdg (k p l e s m args below meth c0 g H locs ls C D S L)
theorem qc_l2d {x : Int64} {a b : Nat} {v : Value} (hd : qc_d mi (pc, pc', .l2d, a, b, v)) (k : qc_X R mi QQ cu su w (pc', lv, .double (FP.l2d x) :: st, M)) : qc_X R mi QQ cu su w (pc, lv, .long x :: st, M) := by
  obtain ⟨rfl, hdg⟩ := hd.of (n := 0) rfl
  intro p l e s m args below meth c0 g H locs ls C D S L
  exact lv_l2d C.1 C.2.1 hdg (k p l e s m args below meth c0 g H locs ls C D S L)
theorem qc_l2f {x : Int64} {a b : Nat} {v : Value} (hd : qc_d mi (pc, pc', .l2f, a, b, v)) (k : qc_X R mi QQ cu su w (pc', lv, .float (FP.l2f x) :: st, M)) : qc_X R mi QQ cu su w (pc, lv, .long x :: st, M) := by
  obtain ⟨rfl, hdg⟩ := hd.of (n := 0) rfl
  intro p l e s m args below meth c0 g H locs ls C D S L
  exact lv_l2f C.1 C.2.1 hdg (k p l e s m args below meth c0 g H locs ls C D S L)
theorem qc_d2i {x : UInt64} {a b : Nat} {v : Value} (hd : qc_d mi (pc, pc', .d2i, a, b, v)) (k : qc_X R mi QQ cu su w (pc', lv, .int (FP.d2i x) :: st, M)) : qc_X R mi QQ cu su w (pc, lv, .double x :: st, M) := by
  obtain ⟨rfl, hdg⟩ := hd.of (n := 0) rfl
  intro p l e s m args below meth c0 g H locs ls C D S L
  exact lv_d2i C.1 C.2.1 hdg (k p l e s m args below meth c0 g H locs ls C D S L)
theorem qc_d2l {x : UInt64} {a b : Nat} {v : Value} (hd : qc_d mi (pc, pc', .d2l, a, b, v)) (k : qc_X R mi QQ cu su w (pc', lv, .long (FP.d2l x) :: st, M)) : qc_X R mi QQ cu su w (pc, lv, .double x :: st, M) := by
  obtain ⟨rfl, hdg⟩ := hd.of (n := 0) rfl
  intro p l e s m args below meth c0 g H locs ls C D S L
  exact lv_d2l C.1 C.2.1 hdg (k p l e s m args below meth c0 g H locs ls C D S L)
theorem qc_f2d {x : UInt32} {a b : Nat} {v : Value} (hd : qc_d mi (pc, pc', .f2d, a, b, v)) (hne : vf_n64 (FP.f2d x)) (k : qc_X R mi QQ cu su w (pc', lv, .double (FP.f2d x) :: st, M)) : qc_X R mi QQ cu su w (pc, lv, .float x :: st, M) := by
  obtain ⟨rfl, hdg⟩ := hd.of (n := 0) rfl
  intro p l e s m args below meth c0 g H locs ls C D S L
  exact lv_f2d C.1 C.2.1 hdg hne (k p l e s m args below meth c0 g H locs ls C D S L)
theorem qc_d2f {x : UInt64} {a b : Nat} {v : Value} (hd : qc_d mi (pc, pc', .d2f, a, b, v)) (hne : vf_n32 (FP.d2f x)) (k : qc_X R mi QQ cu su w (pc', lv, .float (FP.d2f x) :: st, M)) : qc_X R mi QQ cu su w (pc, lv, .double x :: st, M) := by
  obtain ⟨rfl, hdg⟩ := hd.of (n := 0) rfl
  intro p l e s m args below meth c0 g H locs ls C D S L
  exact lv_d2f C.1 C.2.1 hdg hne (k p l e s m args below meth c0 g H locs ls C D S L)
theorem qc_dneg {x : UInt64} {a b : Nat} {v : Value} (hd : qc_d mi (pc, pc', .dneg, a, b, v)) (k : qc_X R mi QQ cu su w (pc', lv, .double (FP.dneg x) :: st, M)) : qc_X R mi QQ cu su w (pc, lv, .double x :: st, M) := by
  obtain ⟨rfl, hdg⟩ := hd.of (n := 0) rfl
  intro p l e s m args below meth c0 g H locs ls C D S L
  exact lv_dneg C.1 C.2.1 hdg (k p l e s m args below meth c0 g H locs ls C D S L)
theorem qc_dadd {x y : UInt64} {a b : Nat} {v : Value} (hd : qc_d mi (pc, pc', .dadd, a, b, v)) (hne : vf_n64 (FP.dadd x y)) (k : qc_X R mi QQ cu su w (pc', lv, .double (FP.dadd x y) :: st, M)) : qc_X R mi QQ cu su w (pc, lv, .double y :: .double x :: st, M) := by
  obtain ⟨rfl, hdg⟩ := hd.of (n := 0) rfl
  intro p l e s m args below meth c0 g H locs ls C D S L
  exact lv_dadd C.1 C.2.1 hdg hne (k p l e s m args below meth c0 g H locs ls C D S L)
theorem qc_dsub {x y : UInt64} {a b : Nat} {v : Value} (hd : qc_d mi (pc, pc', .dsub, a, b, v)) (hne : vf_n64 (FP.dsub x y)) (k : qc_X R mi QQ cu su w (pc', lv, .double (FP.dsub x y) :: st, M)) : qc_X R mi QQ cu su w (pc, lv, .double y :: .double x :: st, M) := by
  obtain ⟨rfl, hdg⟩ := hd.of (n := 0) rfl
  intro p l e s m args below meth c0 g H locs ls C D S L
  exact lv_dsub C.1 C.2.1 hdg hne (k p l e s m args below meth c0 g H locs ls C D S L)
theorem qc_dmul {x y : UInt64} {a b : Nat} {v : Value} (hd : qc_d mi (pc, pc', .dmul, a, b, v)) (hne : vf_n64 (FP.dmul x y)) (k : qc_X R mi QQ cu su w (pc', lv, .double (FP.dmul x y) :: st, M)) : qc_X R mi QQ cu su w (pc, lv, .double y :: .double x :: st, M) := by
  obtain ⟨rfl, hdg⟩ := hd.of (n := 0) rfl
  intro p l e s m args below meth c0 g H locs ls C D S L
  exact lv_dmul C.1 C.2.1 hdg hne (k p l e s m args below meth c0 g H locs ls C D S L)
theorem qc_ddiv {x y : UInt64} {a b : Nat} {v : Value} (hd : qc_d mi (pc, pc', .ddiv, a, b, v)) (hne : vf_n64 (FP.ddiv x y)) (k : qc_X R mi QQ cu su w (pc', lv, .double (FP.ddiv x y) :: st, M)) : qc_X R mi QQ cu su w (pc, lv, .double y :: .double x :: st, M) := by
  obtain ⟨rfl, hdg⟩ := hd.of (n := 0) rfl
  intro p l e s m args below meth c0 g H locs ls C D S L
  exact lv_ddiv C.1 C.2.1 hdg hne (k p l e s m args below meth c0 g H locs ls C D S L)
theorem qc_drem {x y : UInt64} {a b : Nat} {v : Value} (hd : qc_d mi (pc, pc', .drem, a, b, v)) (hne : vf_n64 (FP.drem x y)) (k : qc_X R mi QQ cu su w (pc', lv, .double (FP.drem x y) :: st, M)) : qc_X R mi QQ cu su w (pc, lv, .double y :: .double x :: st, M) := by
  obtain ⟨rfl, hdg⟩ := hd.of (n := 0) rfl
  intro p l e s m args below meth c0 g H locs ls C D S L
  exact lv_drem C.1 C.2.1 hdg hne (k p l e s m args below meth c0 g H locs ls C D S L)
theorem qc_fadd {x y : UInt32} {a b : Nat} {v : Value} (hd : qc_d mi (pc, pc', .fadd, a, b, v)) (hne : vf_n32 (FP.fadd x y)) (k : qc_X R mi QQ cu su w (pc', lv, .float (FP.fadd x y) :: st, M)) : qc_X R mi QQ cu su w (pc, lv, .float y :: .float x :: st, M) := by
  obtain ⟨rfl, hdg⟩ := hd.of (n := 0) rfl
  intro p l e s m args below meth c0 g H locs ls C D S L
  exact lv_fadd C.1 C.2.1 hdg hne (k p l e s m args below meth c0 g H locs ls C D S L)
theorem qc_fsub {x y : UInt32} {a b : Nat} {v : Value} (hd : qc_d mi (pc, pc', .fsub, a, b, v)) (hne : vf_n32 (FP.fsub x y)) (k : qc_X R mi QQ cu su w (pc', lv, .float (FP.fsub x y) :: st, M)) : qc_X R mi QQ cu su w (pc, lv, .float y :: .float x :: st, M) := by
  obtain ⟨rfl, hdg⟩ := hd.of (n := 0) rfl
  intro p l e s m args below meth c0 g H locs ls C D S L
  exact lv_fsub C.1 C.2.1 hdg hne (k p l e s m args below meth c0 g H locs ls C D S L)
theorem qc_fmul {x y : UInt32} {a b : Nat} {v : Value} (hd : qc_d mi (pc, pc', .fmul, a, b, v)) (hne : vf_n32 (FP.fmul x y)) (k : qc_X R mi QQ cu su w (pc', lv, .float (FP.fmul x y) :: st, M)) : qc_X R mi QQ cu su w (pc, lv, .float y :: .float x :: st, M) := by
  obtain ⟨rfl, hdg⟩ := hd.of (n := 0) rfl
  intro p l e s m args below meth c0 g H locs ls C D S L
  exact lv_fmul C.1 C.2.1 hdg hne (k p l e s m args below meth c0 g H locs ls C D S L)
theorem qc_fdiv {x y : UInt32} {a b : Nat} {v : Value} (hd : qc_d mi (pc, pc', .fdiv, a, b, v)) (hne : vf_n32 (FP.fdiv x y)) (k : qc_X R mi QQ cu su w (pc', lv, .float (FP.fdiv x y) :: st, M)) : qc_X R mi QQ cu su w (pc, lv, .float y :: .float x :: st, M) := by
  obtain ⟨rfl, hdg⟩ := hd.of (n := 0) rfl
  intro p l e s m args below meth c0 g H locs ls C D S L
  exact lv_fdiv C.1 C.2.1 hdg hne (k p l e s m args below meth c0 g H locs ls C D S L)
theorem qc_frem {x y : UInt32} {a b : Nat} {v : Value} (hd : qc_d mi (pc, pc', .frem, a, b, v)) (hne : vf_n32 (FP.frem x y)) (k : qc_X R mi QQ cu su w (pc', lv, .float (FP.frem x y) :: st, M)) : qc_X R mi QQ cu su w (pc, lv, .float y :: .float x :: st, M) := by
  obtain ⟨rfl, hdg⟩ := hd.of (n := 0) rfl
  intro p l e s m args below meth c0 g H locs ls C D S L
  exact lv_frem C.1 C.2.1 hdg hne (k p l e s m args below meth c0 g H locs ls C D S L)
theorem qc_dcmp {x y : UInt64} {op : CmpOp} {a b : Nat} {v : Value} (hd : qc_d mi (pc, pc', .dcmp op, a, b, v)) (k : qc_X R mi QQ cu su w (pc', lv, .int (Op.cmpValue (FP.dcmp x y) op) :: st, M)) : qc_X R mi QQ cu su w (pc, lv, .double y :: .double x :: st, M) := by
  obtain ⟨rfl, hdg⟩ := hd.of (n := 0) rfl
  intro p l e s m args below meth c0 g H locs ls C D S L
  exact lv_dcmp C.1 C.2.1 hdg (k p l e s m args below meth c0 g H locs ls C D S L)
theorem qc_fcmp {x y : UInt32} {op : CmpOp} {a b : Nat} {v : Value} (hd : qc_d mi (pc, pc', .fcmp op, a, b, v)) (k : qc_X R mi QQ cu su w (pc', lv, .int (Op.cmpValue (FP.fcmp x y) op) :: st, M)) : qc_X R mi QQ cu su w (pc, lv, .float y :: .float x :: st, M) := by
  obtain ⟨rfl, hdg⟩ := hd.of (n := 0) rfl
  intro p l e s m args below meth c0 g H locs ls C D S L
  exact lv_fcmp C.1 C.2.1 hdg (k p l e s m args below meth c0 g H locs ls C D S L)
theorem qc_iload {i : Nat} {x : Int32} {a b : Nat} {v : Value} (hd : qc_d mi (pc, pc', .iload i, a, b, v)) (hl : qc_lk i lv = some (.int x)) (k : qc_X R mi QQ cu su w (pc', lv, .int x :: st, M)) : qc_X R mi QQ cu su w (pc, lv, st, M) := by
  obtain ⟨rfl, hdg⟩ := hd.of (n := 1) rfl
  intro p l e s m args below meth c0 g H locs ls C D S L
  exact lv_iload C.1 C.2.1 hdg (qc_lk_at hl L) (k p l e s m args below meth c0 g H locs ls C D S L)
theorem qc_iload_n {i : Fin 4} {x : Int32} {a b : Nat} {v : Value} (hd : qc_d mi (pc, pc', .iload_n i, a, b, v)) (hl : qc_lk i lv = some (.int x)) (k : qc_X R mi QQ cu su w (pc', lv, .int x :: st, M)) : qc_X R mi QQ cu su w (pc, lv, st, M) := by
  obtain ⟨rfl, hdg⟩ := hd.of (n := 0) rfl
  intro p l e s m args below meth c0 g H locs ls C D S L
  exact lv_iload_n C.1 C.2.1 hdg rfl (qc_lk_at hl L) (k p l e s m args below meth c0 g H locs ls C D S L)
theorem qc_lload {i : Nat} {x : Int64} {a b : Nat} {v : Value} (hd : qc_d mi (pc, pc', .lload i, a, b, v)) (hl : qc_lk i lv = some (.long x)) (k : qc_X R mi QQ cu su w (pc', lv, .long x :: st, M)) : qc_X R mi QQ cu su w (pc, lv, st, M) := by
  obtain ⟨rfl, hdg⟩ := hd.of (n := 1) rfl
  intro p l e s m args below meth c0 g H locs ls C D S L
  exact lv_lload C.1 C.2.1 hdg (qc_lk_at hl L) (k p l e s m args below meth c0 g H locs ls C D S L)
theorem qc_lload_n {i : Fin 4} {x : Int64} {a b : Nat} {v : Value} (hd : qc_d mi (pc, pc', .lload_n i, a, b, v)) (hl : qc_lk i lv = some (.long x)) (k : qc_X R mi QQ cu su w (pc', lv, .long x :: st, M)) : qc_X R mi QQ cu su w (pc, lv, st, M) := by
  obtain ⟨rfl, hdg⟩ := hd.of (n := 0) rfl
  intro p l e s m args below meth c0 g H locs ls C D S L
  exact lv_lload_n C.1 C.2.1 hdg rfl (qc_lk_at hl L) (k p l e s m args below meth c0 g H locs ls C D S L)
theorem qc_dload {i : Nat} {x : UInt64} {a b : Nat} {v : Value} (hd : qc_d mi (pc, pc', .dload i, a, b, v)) (hl : qc_lk i lv = some (.double x)) (k : qc_X R mi QQ cu su w (pc', lv, .double x :: st, M)) : qc_X R mi QQ cu su w (pc, lv, st, M) := by
  obtain ⟨rfl, hdg⟩ := hd.of (n := 1) rfl
  intro p l e s m args below meth c0 g H locs ls C D S L
  exact lv_dload C.1 C.2.1 hdg (qc_lk_at hl L) (k p l e s m args below meth c0 g H locs ls C D S L)
theorem qc_dload_n {i : Fin 4} {x : UInt64} {a b : Nat} {v : Value} (hd : qc_d mi (pc, pc', .dload_n i, a, b, v)) (hl : qc_lk i lv = some (.double x)) (k : qc_X R mi QQ cu su w (pc', lv, .double x :: st, M)) : qc_X R mi QQ cu su w (pc, lv, st, M) := by
  obtain ⟨rfl, hdg⟩ := hd.of (n := 0) rfl
  intro p l e s m args below meth c0 g H locs ls C D S L
  exact lv_dload_n C.1 C.2.1 hdg rfl (qc_lk_at hl L) (k p l e s m args below meth c0 g H locs ls C D S L)
theorem qc_fload {i : Nat} {x : UInt32} {a b : Nat} {v : Value} (hd : qc_d mi (pc, pc', .fload i, a, b, v)) (hl : qc_lk i lv = some (.float x)) (k : qc_X R mi QQ cu su w (pc', lv, .float x :: st, M)) : qc_X R mi QQ cu su w (pc, lv, st, M) := by
  obtain ⟨rfl, hdg⟩ := hd.of (n := 1) rfl
  intro p l e s m args below meth c0 g H locs ls C D S L
  exact lv_fload C.1 C.2.1 hdg (qc_lk_at hl L) (k p l e s m args below meth c0 g H locs ls C D S L)
theorem qc_fload_n {i : Fin 4} {x : UInt32} {a b : Nat} {v : Value} (hd : qc_d mi (pc, pc', .fload_n i, a, b, v)) (hl : qc_lk i lv = some (.float x)) (k : qc_X R mi QQ cu su w (pc', lv, .float x :: st, M)) : qc_X R mi QQ cu su w (pc, lv, st, M) := by
  obtain ⟨rfl, hdg⟩ := hd.of (n := 0) rfl
  intro p l e s m args below meth c0 g H locs ls C D S L
  exact lv_fload_n C.1 C.2.1 hdg rfl (qc_lk_at hl L) (k p l e s m args below meth c0 g H locs ls C D S L)
theorem qc_aload {i : Nat} {x : Nat} {a b : Nat} {v : Value} (hd : qc_d mi (pc, pc', .aload i, a, b, v)) (hl : qc_lk i lv = some (.ref x)) (k : qc_X R mi QQ cu su w (pc', lv, .ref x :: st, M)) : qc_X R mi QQ cu su w (pc, lv, st, M) := by
  obtain ⟨rfl, hdg⟩ := hd.of (n := 1) rfl
  intro p l e s m args below meth c0 g H locs ls C D S L
  exact lv_aload C.1 C.2.1 hdg (qc_lk_at hl L) (k p l e s m args below meth c0 g H locs ls C D S L)
theorem qc_aload_n {i : Fin 4} {x : Nat} {a b : Nat} {v : Value} (hd : qc_d mi (pc, pc', .aload_n i, a, b, v)) (hl : qc_lk i lv = some (.ref x)) (k : qc_X R mi QQ cu su w (pc', lv, .ref x :: st, M)) : qc_X R mi QQ cu su w (pc, lv, st, M) := by
  obtain ⟨rfl, hdg⟩ := hd.of (n := 0) rfl
  intro p l e s m args below meth c0 g H locs ls C D S L
  exact lv_aload_n C.1 C.2.1 hdg rfl (qc_lk_at hl L) (k p l e s m args below meth c0 g H locs ls C D S L)
theorem qc_aloadN {i : Nat} {a b : Nat} {v : Value} (hd : qc_d mi (pc, pc', .aload i, a, b, v)) (hl : qc_lk i lv = some .null) (k : qc_X R mi QQ cu su w (pc', lv, .null :: st, M)) : qc_X R mi QQ cu su w (pc, lv, st, M) := by
  obtain ⟨rfl, hdg⟩ := hd.of (n := 1) rfl
  intro p l e s m args below meth c0 g H locs ls C D S L
  exact lv_aloadN C.1 C.2.1 hdg (qc_lk_at hl L) (k p l e s m args below meth c0 g H locs ls C D S L)
theorem qc_aload_nN {i : Fin 4} {a b : Nat} {v : Value} (hd : qc_d mi (pc, pc', .aload_n i, a, b, v)) (hl : qc_lk i lv = some .null) (k : qc_X R mi QQ cu su w (pc', lv, .null :: st, M)) : qc_X R mi QQ cu su w (pc, lv, st, M) := by
  obtain ⟨rfl, hdg⟩ := hd.of (n := 0) rfl
  intro p l e s m args below meth c0 g H locs ls C D S L
  exact lv_aload_nN C.1 C.2.1 hdg rfl (qc_lk_at hl L) (k p l e s m args below meth c0 g H locs ls C D S L)
theorem qc_aconst_null {a b : Nat} {v : Value} (hd : qc_d mi (pc, pc', .aconst_null, a, b, v)) (k : qc_X R mi QQ cu su w (pc', lv, .null :: st, M)) : qc_X R mi QQ cu su w (pc, lv, st, M) := by
  obtain ⟨rfl, hdg⟩ := hd.of (n := 0) rfl
  intro p l e s m args below meth c0 g H locs ls C D S L
  exact lv_null C.1 C.2.1 hdg (k p l e s m args below meth c0 g H locs ls C D S L)
theorem qc_dup {z : Value} {a b : Nat} {v : Value} (hd : qc_d mi (pc, pc', .dup, a, b, v)) (hc : z.category = 1) (k : qc_X R mi QQ cu su w (pc', lv, z :: z :: st, M)) : qc_X R mi QQ cu su w (pc, lv, z :: st, M) := by
  obtain ⟨rfl, hdg⟩ := hd.of (n := 0) rfl
  intro p l e s m args below meth c0 g H locs ls C D S L
  exact lv_dup C.1 C.2.1 hdg ((qc_cat _ _).trans hc) (k p l e s m args below meth c0 g H locs ls C D S L)
theorem qc_pop {z : Value} {a b : Nat} {v : Value} (hd : qc_d mi (pc, pc', .pop, a, b, v)) (hc : z.category = 1) (k : qc_X R mi QQ cu su w (pc', lv, st, M)) : qc_X R mi QQ cu su w (pc, lv, z :: st, M) := by
  obtain ⟨rfl, hdg⟩ := hd.of (n := 0) rfl
  intro p l e s m args below meth c0 g H locs ls C D S L
  exact lv_pop C.1 C.2.1 hdg ((qc_cat _ _).trans hc) (k p l e s m args below meth c0 g H locs ls C D S L)
theorem qc_dup2_11 {z z2 : Value} {a b : Nat} {v : Value} (hd : qc_d mi (pc, pc', .dup2, a, b, v)) (hc : z.category = 1) (hc2 : z2.category = 1) (k : qc_X R mi QQ cu su w (pc', lv, z :: z2 :: z :: z2 :: st, M)) : qc_X R mi QQ cu su w (pc, lv, z :: z2 :: st, M) := by
  obtain ⟨rfl, hdg⟩ := hd.of (n := 0) rfl
  intro p l e s m args below meth c0 g H locs ls C D S L
  exact lv_dup2_11 C.1 C.2.1 hdg ((qc_cat _ _).trans hc) ((qc_cat _ _).trans hc2) (k p l e s m args below meth c0 g H locs ls C D S L)
theorem qc_dup2_2 {z : Value} {a b : Nat} {v : Value} (hd : qc_d mi (pc, pc', .dup2, a, b, v)) (hc : z.category = 2) (k : qc_X R mi QQ cu su w (pc', lv, z :: z :: st, M)) : qc_X R mi QQ cu su w (pc, lv, z :: st, M) := by
  obtain ⟨rfl, hdg⟩ := hd.of (n := 0) rfl
  intro p l e s m args below meth c0 g H locs ls C D S L
  exact lv_dup2_2 C.1 C.2.1 hdg ((qc_cat _ _).trans hc) (k p l e s m args below meth c0 g H locs ls C D S L)
theorem qc_dup_x1 {z z2 : Value} {a b : Nat} {v : Value} (hd : qc_d mi (pc, pc', .dup_x1, a, b, v)) (hc : z.category = 1) (hc2 : z2.category = 1) (k : qc_X R mi QQ cu su w (pc', lv, z :: z2 :: z :: st, M)) : qc_X R mi QQ cu su w (pc, lv, z :: z2 :: st, M) := by
  obtain ⟨rfl, hdg⟩ := hd.of (n := 0) rfl
  intro p l e s m args below meth c0 g H locs ls C D S L
  exact lv_dup_x1 C.1 C.2.1 hdg ((qc_cat _ _).trans hc) ((qc_cat _ _).trans hc2) (k p l e s m args below meth c0 g H locs ls C D S L)
end QCR
