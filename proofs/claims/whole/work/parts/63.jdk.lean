/-! texts, the row of marks, natives -/
section QJ
variable {R : Room} {mi : qcI} {QQ : qcQ} {cu su : Nat} {w : qcW} {pc pc' : Nat} {lv : List (Nat × Value)} {st : List Value} {M : qcM} {b : Nat} {v : Value} {mc ms : Nat} {Z : qcZ}
theorem qj_w {i : Nat} {c : Cond} (h : qc_pw i c = true) {s : State} {args : Array Value} (h1 : ∀ w ∈ qc_wg, w.before args s = true) : c.before args s = true := h1 _ (qc_pw_mem h)
theorem qj_wT : qc_pw 2151 (.fieldLink "java/lang/String" 9 "java/lang/String" "value" "[B") = true := by decide +kernel
theorem qj_wC : qc_pw 2152 (.fieldLink "java/lang/String" 15 "java/lang/String" "coder" "B") = true := by decide +kernel
theorem qj_wZ : qc_pw 683 (.fieldLink "java/lang/String" 38 "java/lang/String" "COMPACT_STRINGS" "Z") = true := by decide +kernel
theorem qj_wF : qc_pw 704 (.fieldLink "java/lang/String" 1053 "jdk/internal/util/Preconditions" "SIOOBE_FORMATTER" "Ljava/util/function/BiFunction;") = true := by decide +kernel
theorem qj_wA : lw_tbl[673]? = some (.fieldLinkNest "QueryClasses$Scanner" 71 "QueryClasses$Mark" "ALL" "[LQueryClasses$Mark;" "QueryClasses") := by decide +kernel
theorem qj_wX : lw_tbl[2150]? = some (.fieldLinkNest "QueryClasses$Scanner" 75 "QueryClasses$Mark" "text" "Ljava/lang/String;" "QueryClasses") := by decide +kernel
theorem qj_nm14 : qc_nm 14 = "java/lang/String" := rfl
theorem qj_nm9 : qc_nm 9 = "QueryClasses$Scanner" := rfl
/-- a text's row of bytes -/
theorem qj_val {i a : Nat} (hd : qc_d mi (pc, pc', .getfield 9, a, b, v)) (ho : mi.1 = 14) (hi : i < 58) (kk : qc_X R mi QQ cu su w (pc', lv, .ref (128 + i) :: st, M)) : qc_X R mi QQ cu su w (pc, lv, .ref (64 + i) :: st, M) := by
  obtain ⟨rfl, hdg⟩ := hd.of (n := 2) rfl
  intro p l e s m args below meth c0 g H locs ls C D S L
  have hSW := (D.1.2.2.2.2.2.2.start D.2 S)
  have k2 := kk p l e s m args below meth c0 g H locs ls C D S L
  have hown := C.2.2.2.2.1
  rw [ho] at hown
  exact vk_getf C.1 C.2.1 (hSW.2.2.2.2.1.1 i hi).2.2.1 S hown (qj_w qj_wT C.2.2.2.2.2.1) (fun x h => h) hdg k2
theorem qj_cod {i a : Nat} (hd : qc_d mi (pc, pc', .getfield 15, a, b, v)) (ho : mi.1 = 14) (hi : i < 58) (kk : qc_X R mi QQ cu su w (pc', lv, .int 0 :: st, M)) : qc_X R mi QQ cu su w (pc, lv, .ref (64 + i) :: st, M) := by
  obtain ⟨rfl, hdg⟩ := hd.of (n := 2) rfl
  intro p l e s m args below meth c0 g H locs ls C D S L
  have hSW := (D.1.2.2.2.2.2.2.start D.2 S)
  have k2 := kk p l e s m args below meth c0 g H locs ls C D S L
  have hown := C.2.2.2.2.1
  rw [ho] at hown
  exact vk_getf C.1 C.2.1 (hSW.2.2.2.2.1.1 i hi).2.1 S hown (qj_w qj_wC C.2.2.2.2.2.1) (fun x h => h) hdg k2
theorem qj_com {a : Nat} (hd : qc_d mi (pc, pc', .getstatic 38, a, b, v)) (ho : mi.1 = 14) (kk : qc_X R mi QQ cu su w (pc', lv, .int 1 :: st, M)) : qc_X R mi QQ cu su w (pc, lv, st, M) := by
  obtain ⟨rfl, hdg⟩ := hd.of (n := 2) rfl
  intro p l e s m args below meth c0 g H locs ls C D S L
  have hSW := (D.1.2.2.2.2.2.2.start D.2 S)
  have k2 := kk p l e s m args below meth c0 g H locs ls C D S L
  have hown := C.2.2.2.2.1
  rw [ho] at hown
  exact va_gets C.1 C.2.1 hSW.2.2.2.2.2.1 S hown (qj_w qj_wZ C.2.2.2.2.2.1) (fun x h => h) hdg k2
theorem qj_frm {a : Nat} (hd : qc_d mi (pc, pc', .getstatic 1053, a, b, v)) (ho : mi.1 = 14) (kk : ∀ f : Value, f = .null ∨ f = .ref 63 → qc_X R mi QQ cu su w (pc', lv, f :: st, M)) : qc_X R mi QQ cu su w (pc, lv, st, M) := by
  obtain ⟨rfl, hdg⟩ := hd.of (n := 2) rfl
  intro p l e s m args below meth c0 g H locs ls C D S L
  have hSW := (D.1.2.2.2.2.2.2.start D.2 S)
  have hown := C.2.2.2.2.1
  rw [ho] at hown
  rcases hSW.2.2.2.2.2.2 with hZ | hZ
  · exact va_gets C.1 C.2.1 hZ S hown (qj_w qj_wF C.2.2.2.2.2.1) (fun x h => h) hdg (kk .null (Or.inl rfl) p l e s m args below meth c0 g H locs ls C D S L)
  · exact va_gets C.1 C.2.1 hZ S hown (qj_w qj_wF C.2.2.2.2.2.1) (fun x h => h) hdg (kk (.ref 63) (Or.inr rfl) p l e s m args below meth c0 g H locs ls C D S L)
theorem qj_bal {i a : Nat} {j : Int32} (hd : qc_d mi (pc, pc', .baload, a, b, v)) (hi : i < 58) (hin : vp_in j (qc_sxLen.getD i 0)) (kk : qc_X R mi QQ cu su w (pc', lv, .int ((qc_sxB.getD i []).getD j.toNatClampNeg 0) :: st, M)) : qc_X R mi QQ cu su w (pc, lv, .int j :: .ref (128 + i) :: st, M) := by
  obtain ⟨rfl, hdg⟩ := hd.of (n := 0) rfl
  intro p l e s m args below meth c0 g H locs ls C D S L
  have hSW := (D.1.2.2.2.2.2.2.start D.2 S)
  exact va_tb C.1 C.2.1 (hSW.2.2.2.2.1.1 i hi).2.2.2 S hin rfl hdg (kk p l e s m args below meth c0 g H locs ls C D S L)
theorem qj_len {i a : Nat} (hd : qc_d mi (pc, pc', .arraylength, a, b, v)) (hi : i < 58) (kk : qc_X R mi QQ cu su w (pc', lv, .int (nI (qc_sxLen.getD i 0)) :: st, M)) : qc_X R mi QQ cu su w (pc, lv, .ref (128 + i) :: st, M) := by
  obtain ⟨rfl, hdg⟩ := hd.of (n := 0) rfl
  intro p l e s m args below meth c0 g H locs ls C D S L
  have hSW := (D.1.2.2.2.2.2.2.start D.2 S)
  exact va_tlen C.1 C.2.1 (hSW.2.2.2.2.1.1 i hi).2.2.2 S rfl hdg (kk p l e s m args below meth c0 g H locs ls C D S L)
theorem qj_ret {x : Int32} {a : Nat} {ty : FieldType} (hd : qc_d mi (pc, pc', .ireturn, a, b, v)) (hr : mi.2.2.2.2 = some ty) (hx : narrow ty (.int x) = .int x) (hc : cu ≤ mc) (hs : su ≤ ms) (hz : Z (some (.int x)) w M) : qc_X R mi (qc_QM mc ms Z) cu su w (pc, lv, [.int x], M) := by
  obtain ⟨rfl, hdg⟩ := hd.of (n := 0) rfl
  intro p l e s m args below meth c0 g H locs ls C D S L
  exact W.widen hc hs (W.zret C.1 C.2.1 (C.2.2.1.trans hr) hx (fun t ht hW => qc_end hz D.1 S ht hW) S.2.2 hdg C.2.2.2.2.2.2.1)
/-- the row of all marks -/
theorem qc_gAll {n : Nat} (hd : qc_d mi (pc, pc', .getstatic n, 63, b, v)) (ho : (Nat.beq mi.1 9 && Nat.beq n 71) = true) (kk : qc_X R mi QQ cu su w (pc', lv, .ref 62 :: st, M)) : qc_X R mi QQ cu su w (pc, lv, st, M) := by
  obtain ⟨rfl, hdg⟩ := hd.of (n := 2) rfl
  rw [Bool.and_eq_true] at ho
  have h9 := Nat.eq_of_beq_eq_true ho.1
  have hn := Nat.eq_of_beq_eq_true ho.2
  subst hn
  intro p l e s m args below meth c0 g H locs ls C D S L
  have hSW := (D.1.2.2.2.2.2.2.start D.2 S)
  have k2 := kk p l e s m args below meth c0 g H locs ls C D S L
  have hown := C.2.2.2.2.1
  rw [h9] at hown
  have h5 : (Cond.fieldLinkNest "QueryClasses$Scanner" 71 "QueryClasses$Mark" "ALL" "[LQueryClasses$Mark;" "QueryClasses") ∈ qc_nwL := List.mem_filter.mpr ⟨List.mem_of_getElem? qj_wA, rfl⟩
  exact va_getsN C.1 C.2.1 hSW.2.2.1 S hown (va_Nw.use rfl (C.2.2.2.2.2.2.2.2.1 _ h5)) (fun x h => h) hdg k2
/-- a mark's text -/
theorem qc_gT {n k i : Nat} (hd : qc_d mi (pc, pc', .getfield n, 51, k, v)) (hi : i < 62) (ho : (Nat.beq mi.1 9 && Nat.beq n 75) = true) (kk : qc_X R mi QQ cu su w (pc', lv, .ref (64 + qc_mk_text.getD i 0) :: st, M)) : qc_X R mi QQ cu su w (pc, lv, .ref i :: st, M) := by
  obtain ⟨rfl, hdg⟩ := hd.of (n := 2) rfl
  rw [Bool.and_eq_true] at ho
  have h9 := Nat.eq_of_beq_eq_true ho.1
  have hn := Nat.eq_of_beq_eq_true ho.2
  subst hn
  intro p l e s m args below meth c0 g H locs ls C D S L
  have hSW := (D.1.2.2.2.2.2.2.start D.2 S)
  have k2 := kk p l e s m args below meth c0 g H locs ls C D S L
  have hown := C.2.2.2.2.1
  rw [h9] at hown
  have h5 : (Cond.fieldLinkNest "QueryClasses$Scanner" 75 "QueryClasses$Mark" "text" "Ljava/lang/String;" "QueryClasses") ∈ qc_nwL := List.mem_filter.mpr ⟨List.mem_of_getElem? qj_wX, rfl⟩
  obtain ⟨cf, kc, fi, f, cell, f1, f2, f3, f4, f5, f6⟩ := (hSW.2.1 i hi).kept S.2.1
  exact va_Wgetf C.1 C.2.1 hown (va_Nw.use rfl (C.2.2.2.2.2.2.2.2.1 _ h5)) f1 f2 f3 f4 (v := .ref (g.2.2.1 (64 + qc_mk_text.getD i 0))) f5 rfl rfl hdg k2
theorem qc_alenM {a : Nat} (hd : qc_d mi (pc, pc', .arraylength, a, b, v)) (kk : qc_X R mi QQ cu su w (pc', lv, .int (nI 62) :: st, M)) : qc_X R mi QQ cu su w (pc, lv, .ref 62 :: st, M) := by
  obtain ⟨rfl, hdg⟩ := hd.of (n := 0) rfl
  intro p l e s m args below meth c0 g H locs ls C D S L
  have hSW := (D.1.2.2.2.2.2.2.start D.2 S)
  exact va_tlen C.1 C.2.1 hSW.2.2.2.1 S rfl hdg (kk p l e s m args below meth c0 g H locs ls C D S L)
theorem qc_aaldM {a : Nat} {j : Int32} (hd : qc_d mi (pc, pc', .aaload, a, b, v)) (hin : vp_in j 62) (kk : qc_X R mi QQ cu su w (pc', lv, .ref j.toNatClampNeg :: st, M)) : qc_X R mi QQ cu su w (pc, lv, .int j :: .ref 62 :: st, M) := by
  obtain ⟨rfl, hdg⟩ := hd.of (n := 0) rfl
  intro p l e s m args below meth c0 g H locs ls C D S L
  have hSW := (D.1.2.2.2.2.2.2.start D.2 S)
  exact vb_tq C.1 C.2.1 hSW.2.2.2.1 S hin rfl hdg (kk p l e s m args below meth c0 g H locs ls C D S L)
end QJ
theorem qj_txs : (List.range 62).all (fun i => Nat.blt (qc_mk_text.getD i 0) 58) = true := by decide +kernel
theorem qj_tx {i : Nat} (hi : i < 62) : qc_mk_text.getD i 0 < 58 := Nat.blt_eq.mp (qc_all (p := fun i => Nat.blt (qc_mk_text.getD i 0) 58) qj_txs hi)
theorem qj_nf {b : Bool} (h : (!b) = true) : b = false := by cases b <;> simp_all
section QJC
variable {R : Room} {mi : qcI} {QQ : qcQ} {cu su : Nat} {w : qcW} {pc pc' : Nat} {lv : List (Nat × Value)} {st : List Value} {M : qcM} {a b : Nat} {v : Value} {d : Nat} {m2 : qcI} {as : List Value} {n p1 p2 p3 p4 q : Nat} {r : Value}
/-- a call on a text -/
theorem qc_cVS {idx i : Nat} {as' : List Value} (hd : qc_d mi (pc, pc', .invokevirtual idx, a, b, v)) (hl : qc_lk2 mi.1 idx q m2.2.1 = true) (hm : qc_mf m2 0 n p1 p2 p3 p4 = true) (hi : i < 58) (hcl : "java/lang/String" = m2.2.1.cls) (hV : qc_V d 0 0 m2 (.ref (64 + i) :: as) w M (qc_eq (some r) w M)) (hn : Nat.beq as.length n = true) (hs : as' = as.reverse ++ .ref (64 + i) :: st) (hst : (st.map fun v => v.category).sum ≤ 8) (hR : d + 1 ≤ R.frames ∧ 8 + (m2.2.2.2.1 + 11) + 64 * d ≤ R.locals) (hf : cu ≤ R.cells ∧ su ≤ R.slots)
    (kk : qc_X R mi QQ cu su w (pc', lv, r :: st, M)) : qc_X R mi QQ cu su w (pc, lv, as', M) := by
  obtain ⟨rfl, hdg⟩ := hd.of (n := 2) rfl
  have hn := Nat.eq_of_beq_eq_true hn
  subst hs
  intro p l e s m args below meth c0 g H locs ls C D S L
  have hB := qc_mf_B hm (R := R) (d := d) (mc := 0) (ms := 0) C.2.2.2.2.2.1 hl hR
  unfold qc_mf at hm
  simp only [Bool.and_eq_true] at hm
  have hi1 := C.2.2.2.2.2.1 _ (qc_pw_mem hm.2.1)
  have hse := C.2.2.2.2.2.1 _ (qc_pw_mem hm.2.2)
  have hp := qc_preS (as := .ref (64 + i) :: as) D.1 C.2.2.2.2.2.2.2.2
  have hSW := (D.1.2.2.2.2.2.2.start D.2 S)
  have hrec := vk_recv hSW.2.2.2.2.1 hi S
  rw [hcl] at hrec
  refine qc_callX (rest := st.map (qc_cv g.2.2.1)) (va_runV (b := g.2.2.1 (64 + i)) (C := m2.2.1.cls) (As := as.map (qc_cv g.2.2.1)) ⟨C.1, C.2.1, C.2.2.2.1, C.2.2.2.2.1, C.2.2.2.2.2.1⟩ (hV l g) ⟨hB, hi1, hse⟩ ⟨hp.1, hrec, hp.2⟩ rfl (by rw [List.length_map]; exact hn) L.1 (by simp [qc_cv]) (lv_room (by rw [List.map_map]; simpa [Function.comp_def, qc_cat] using hst)) hdg hf) S (fun r1 w1 M1 t H1 locs1 hz hW hS => ?_)
  obtain ⟨rfl, rfl, rfl⟩ := hz
  exact kk p l e s m args below meth c0 g H1 locs1 ls C ⟨hW, D.2⟩ hS L
end QJC
theorem sJ_coder (w : qcW) (M : qcM) {i : Nat} (hi : i < 58) : qc_V 0 0 0 qmJ0_coder_7d493 [.ref (64 + i)] w M (qc_eq (some (.int 0)) w M) := by
  refine qc_V.of rfl rfl (Nat.le_of_ble_eq_true rfl) (lv := [(0, .ref (64 + i))]) rfl ?_
  refine qj_com (qc_at qkJ0_coder_7d493 0 rfl) rfl <| qc_if_eq (qc_at qkJ0_coder_7d493 1 rfl) (fun h => absurd h (by decide)) (fun _ => ?_)
  exact qc_aload_n (qc_at qkJ0_coder_7d493 2 rfl) rfl <| qj_cod (qc_at qkJ0_coder_7d493 3 rfl) rfl hi <| qc_goto (qc_at qkJ0_coder_7d493 4 rfl) <| qj_ret (qc_at qkJ0_coder_7d493 6 rfl) rfl rfl (Nat.le_refl _) (Nat.le_refl _) (qc_eq.rf _ _ _)
theorem sJ_lat1 (w : qcW) (M : qcM) {i : Nat} (hi : i < 58) : qc_V 0 0 0 qmJ0_isLatin1_aae02 [.ref (64 + i)] w M (qc_eq (some (.int 1)) w M) := by
  refine qc_V.of rfl rfl (Nat.le_of_ble_eq_true rfl) (lv := [(0, .ref (64 + i))]) rfl ?_
  refine qj_com (qc_at qkJ0_isLatin1_aae02 0 rfl) rfl <| qc_if_eq (qc_at qkJ0_isLatin1_aae02 1 rfl) (fun h => absurd h (by decide)) (fun _ => ?_)
  refine qc_aload_n (qc_at qkJ0_isLatin1_aae02 2 rfl) rfl <| qj_cod (qc_at qkJ0_isLatin1_aae02 3 rfl) rfl hi <| qc_if_ne (qc_at qkJ0_isLatin1_aae02 4 rfl) (fun h => absurd rfl h) (fun _ => ?_)
  exact qc_iconst (qc_at qkJ0_isLatin1_aae02 5 rfl) <| qc_goto (qc_at qkJ0_isLatin1_aae02 6 rfl) <| qc_zret (qc_at qkJ0_isLatin1_aae02 8 rfl) rfl (Or.inr rfl) (Nat.le_refl _) (Nat.le_refl _) (qc_eq.rf _ _ _)
theorem qj_lens : (List.range 58).all (fun i => Nat.blt (qc_sxLen.getD i 0) 100) = true := by decide +kernel
set_option maxRecDepth 8000 in
theorem sJ_length (w : qcW) (M : qcM) {i : Nat} (hi : i < 58) : qc_V 1 0 0 qmJ0_length_8abf5 [.ref (64 + i)] w M (qc_eq (some (.int (nI (qc_sxLen.getD i 0)))) w M) := by
  have hl : qc_sxLen.getD i 0 < 100 := Nat.blt_eq.mp (qc_all (p := fun i => Nat.blt (qc_sxLen.getD i 0) 100) qj_lens hi)
  refine qc_V.of rfl rfl (Nat.le_of_ble_eq_true rfl) (lv := [(0, .ref (64 + i))]) rfl ?_
  refine qc_aload_n (qc_at qkJ0_length_8abf5 0 rfl) rfl <| qj_val (qc_at qkJ0_length_8abf5 1 rfl) rfl hi <| qj_len (qc_at qkJ0_length_8abf5 2 rfl) hi <| qc_aload_n (qc_at qkJ0_length_8abf5 3 rfl) rfl <| qc_cVS (qc_at qkJ0_length_8abf5 4 rfl) ql_14_335 qfJ0_coder_7d493 hi rfl (sJ_coder w M hi) rfl rfl (Nat.le_of_ble_eq_true rfl) ⟨by decide, by decide⟩ ⟨Nat.zero_le _, Nat.zero_le _⟩ <| qc_ishr (qc_at qkJ0_length_8abf5 5 rfl) <| ?_
  rw [sc_shr0 (by omega)]
  exact qc_iret (qc_at qkJ0_length_8abf5 6 rfl) rfl (Nat.le_refl _) (Nat.le_refl _) (qc_eq.rf _ _ _)
theorem sJ_chk3 (w : qcW) (M : qcM) {j n : Int32} (h0 : ¬ j < 0) (h1 : j < n) {f : Value} (hf : f = .null ∨ f = .ref 63) : qc_V 0 0 0 qmJ3_checkIndex_8e157 [.int j, .int n, f] w M (qc_eq (some (.int j)) w M) := by
  rcases hf with rfl | rfl
  · refine qc_V.of rfl rfl (Nat.le_of_ble_eq_true rfl) (lv := [(0, .int j), (1, .int n), (2, .null)]) rfl ?_
    refine qc_iload_n (qc_at qkJ3_checkIndex_8e157 0 rfl) rfl <| qc_if_lt (qc_at qkJ3_checkIndex_8e157 1 rfl) (fun h => absurd h h0) (fun _ => ?_)
    refine qc_iload_n (qc_at qkJ3_checkIndex_8e157 2 rfl) rfl <| qc_iload_n (qc_at qkJ3_checkIndex_8e157 3 rfl) rfl <| qc_icmp_lt (qc_at qkJ3_checkIndex_8e157 4 rfl) (fun _ => ?_) (fun h => absurd h1 h)
    exact qc_iload_n (qc_at qkJ3_checkIndex_8e157 10 rfl) rfl <| qc_iret (qc_at qkJ3_checkIndex_8e157 11 rfl) rfl (Nat.le_refl _) (Nat.le_refl _) (qc_eq.rf _ _ _)
  · refine qc_V.of rfl rfl (Nat.le_of_ble_eq_true rfl) (lv := [(0, .int j), (1, .int n), (2, .ref 63)]) rfl ?_
    refine qc_iload_n (qc_at qkJ3_checkIndex_8e157 0 rfl) rfl <| qc_if_lt (qc_at qkJ3_checkIndex_8e157 1 rfl) (fun h => absurd h h0) (fun _ => ?_)
    refine qc_iload_n (qc_at qkJ3_checkIndex_8e157 2 rfl) rfl <| qc_iload_n (qc_at qkJ3_checkIndex_8e157 3 rfl) rfl <| qc_icmp_lt (qc_at qkJ3_checkIndex_8e157 4 rfl) (fun _ => ?_) (fun h => absurd h1 h)
    exact qc_iload_n (qc_at qkJ3_checkIndex_8e157 10 rfl) rfl <| qc_iret (qc_at qkJ3_checkIndex_8e157 11 rfl) rfl (Nat.le_refl _) (Nat.le_refl _) (qc_eq.rf _ _ _)
set_option maxRecDepth 8000 in
theorem sJ_chk (w : qcW) (M : qcM) {j n : Int32} (h0 : ¬ j < 0) (h1 : j < n) : qc_V 1 0 0 qmJ0_checkIndex_df160 [.int j, .int n] w M (qc_eq none w M) := by
  refine qc_V.of rfl rfl (Nat.le_of_ble_eq_true rfl) (lv := [(0, .int j), (1, .int n)]) rfl ?_
  refine qc_iload_n (qc_at qkJ0_checkIndex_df160 0 rfl) rfl <| qc_iload_n (qc_at qkJ0_checkIndex_df160 1 rfl) rfl <| qj_frm (qc_at qkJ0_checkIndex_df160 2 rfl) rfl (fun f hf => ?_)
  exact qc_cSv (qc_at qkJ0_checkIndex_df160 3 rfl) ql_14_1059 qfJ3_checkIndex_8e157 (sJ_chk3 w M h0 h1 hf) rfl rfl (Nat.le_of_ble_eq_true rfl) ⟨by decide, by decide⟩ ⟨Nat.zero_le _, Nat.zero_le _⟩ <| qc_pop (qc_at qkJ0_checkIndex_df160 4 rfl) rfl <| qc_vret (qc_at qkJ0_checkIndex_df160 5 rfl) rfl (Nat.le_refl _) (Nat.le_refl _) (qc_eq.rf _ _ _)
/-- a text's char -/
def qj_ch (i : Nat) (j : Int32) : Int32 := (qc_sxB.getD i []).getD j.toNatClampNeg 0 &&& 255
theorem qj_in {i : Nat} {j : Int32} (hi : i < 58) (hin : qc_inb j (qc_sxLen.getD i 0) = true) : ¬ j < 0 ∧ j < nI (qc_sxLen.getD i 0) := by
  have hl : qc_sxLen.getD i 0 < 100 := Nat.blt_eq.mp (qc_all (p := fun i => Nat.blt (qc_sxLen.getD i 0) 100) qj_lens hi)
  obtain ⟨k, hk, rfl⟩ := qc_inb_of hin (by omega)
  exact ⟨nI_pos (by omega), nI_lt hk (by omega)⟩
set_option maxRecDepth 8000 in
theorem sJ_lch (w : qcW) (M : qcM) {i : Nat} {j : Int32} (hi : i < 58) (hin : qc_inb j (qc_sxLen.getD i 0) = true) : qc_V 2 0 0 qmJ1_charAt_3b067 [.ref (128 + i), .int j] w M (qc_eq (some (.int (qj_ch i j))) w M) := by
  obtain ⟨h0, h1⟩ := qj_in hi hin
  refine qc_V.of rfl rfl (Nat.le_of_ble_eq_true rfl) (lv := [(0, .ref (128 + i)), (1, .int j)]) rfl ?_
  refine qc_iload_n (qc_at qkJ1_charAt_3b067 0 rfl) rfl <| qc_aload_n (qc_at qkJ1_charAt_3b067 1 rfl) rfl <| qj_len (qc_at qkJ1_charAt_3b067 2 rfl) hi <| qc_cSn (qc_at qkJ1_charAt_3b067 3 rfl) ql_15_9 qfJ0_checkIndex_df160 (sJ_chk w M h0 h1) rfl rfl (Nat.le_of_ble_eq_true rfl) ⟨by decide, by decide⟩ ⟨Nat.zero_le _, Nat.zero_le _⟩ <| qc_aload_n (qc_at qkJ1_charAt_3b067 4 rfl) rfl <| qc_iload_n (qc_at qkJ1_charAt_3b067 5 rfl) rfl <| qj_bal (qc_at qkJ1_charAt_3b067 6 rfl) hi (qc_inb_in hin) <| qc_sipush (qc_at qkJ1_charAt_3b067 7 rfl) <| qc_iand (qc_at qkJ1_charAt_3b067 8 rfl) <| qc_i2c (qc_at qkJ1_charAt_3b067 9 rfl) <| ?_
  rw [sc_c2]
  exact qj_ret (qc_at qkJ1_charAt_3b067 10 rfl) rfl (sc_nar _) (Nat.le_refl _) (Nat.le_refl _) (qc_eq.rf _ _ _)
set_option maxRecDepth 8000 in
theorem sJ_charAt (w : qcW) (M : qcM) {i : Nat} {j : Int32} (hi : i < 58) (hin : qc_inb j (qc_sxLen.getD i 0) = true) : qc_V 3 0 0 qmJ0_charAt_5068e [.ref (64 + i), .int j] w M (qc_eq (some (.int (qj_ch i j))) w M) := by
  refine qc_V.of rfl rfl (Nat.le_of_ble_eq_true rfl) (lv := [(0, .ref (64 + i)), (1, .int j)]) rfl ?_
  refine qc_aload_n (qc_at qkJ0_charAt_5068e 0 rfl) rfl <| qc_cVS (qc_at qkJ0_charAt_5068e 1 rfl) ql_14_492 qfJ0_isLatin1_aae02 hi rfl (sJ_lat1 w M hi) rfl rfl (Nat.le_of_ble_eq_true rfl) ⟨by decide, by decide⟩ ⟨Nat.zero_le _, Nat.zero_le _⟩ <| qc_if_eq (qc_at qkJ0_charAt_5068e 2 rfl) (fun h => absurd h (by decide)) (fun _ => ?_)
  exact qc_aload_n (qc_at qkJ0_charAt_5068e 3 rfl) rfl <| qj_val (qc_at qkJ0_charAt_5068e 4 rfl) rfl hi <| qc_iload_n (qc_at qkJ0_charAt_5068e 5 rfl) rfl <| qc_cSv (qc_at qkJ0_charAt_5068e 6 rfl) ql_14_495 qfJ1_charAt_3b067 (sJ_lch w M hi hin) rfl rfl (Nat.le_of_ble_eq_true rfl) ⟨by decide, by decide⟩ ⟨Nat.zero_le _, Nat.zero_le _⟩ <| qj_ret (qc_at qkJ0_charAt_5068e 7 rfl) rfl (sc_nar _) (Nat.le_refl _) (Nat.le_refl _) (qc_eq.rf _ _ _)
section QJN
variable {R : Room} {mi : qcI} {QQ : qcQ} {cu su : Nat} {w : qcW} {pc pc' : Nat} {lv : List (Nat × Value)} {st : List Value} {M : qcM} {a b : Nat} {v : Value}
theorem qj_d2lN : qc_pw 1687 (.native ⟨"java/lang/Double", "doubleToRawLongBits", "(D)J"⟩) = true := by decide +kernel
theorem qj_d2lS : qc_pw 1686 (.static ⟨"java/lang/Double", "doubleToRawLongBits", "(D)J"⟩) = true := by decide +kernel
theorem qj_d2lI : qc_pw 148 (.initialized "java/lang/Double") = true := by decide +kernel
theorem qj_d2lL20_134 : qc_pw 1685 (.methodLink (qc_nm 20) 134 ⟨"java/lang/Double", "doubleToRawLongBits", "(D)J"⟩) = true := by decide +kernel
theorem qj_d2l {idx q : Nat} {x : UInt64} (hd : qc_d mi (pc, pc', .invokestatic idx, a, b, v)) (hl : qc_pw q (.methodLink (qc_nm mi.1) idx ⟨"java/lang/Double", "doubleToRawLongBits", "(D)J"⟩) = true) (hst : (st.map fun v => v.category).sum ≤ 8) (hR : 1 ≤ R.frames ∧ 24 ≤ R.locals) (kk : qc_X R mi QQ cu su w (pc', lv, .long x.toInt64 :: st, M)) : qc_X R mi QQ cu su w (pc, lv, .double x :: st, M) := by
  obtain ⟨rfl, hdg⟩ := hd.of (n := 2) rfl
  intro p l e s m args below meth c0 g H locs ls C D S L
  have hst2 : ((st.map (qc_cv g.2.2.1)).map fun v => v.category).sum ≤ 8 := by rw [List.map_map]; simpa [Function.comp_def, qc_cat] using hst
  exact vn_d2l C.1 C.2.1 (C.2.2.2.1.trans L.1.symm) C.2.2.2.2.1 (qj_w hl C.2.2.2.2.2.1) (qj_w qj_d2lN C.2.2.2.2.2.1) (qj_w qj_d2lS C.2.2.2.2.2.1) (qj_w qj_d2lI C.2.2.2.2.2.1) hR.1 (by omega) hdg (kk p l e s m args below meth c0 g H locs ls C D S L)
theorem qj_l2dN : qc_pw 1656 (.native ⟨"java/lang/Double", "longBitsToDouble", "(J)D"⟩) = true := by decide +kernel
theorem qj_l2dS : qc_pw 1655 (.static ⟨"java/lang/Double", "longBitsToDouble", "(J)D"⟩) = true := by decide +kernel
theorem qj_l2dI : qc_pw 148 (.initialized "java/lang/Double") = true := by decide +kernel
theorem qj_l2dL12_193 : qc_pw 1654 (.methodLink (qc_nm 12) 193 ⟨"java/lang/Double", "longBitsToDouble", "(J)D"⟩) = true := by decide +kernel
theorem qj_l2d {idx q : Nat} {x : Int64} (hd : qc_d mi (pc, pc', .invokestatic idx, a, b, v)) (hl : qc_pw q (.methodLink (qc_nm mi.1) idx ⟨"java/lang/Double", "longBitsToDouble", "(J)D"⟩) = true) (hv : vn_snl2d x = false) (hst : (st.map fun v => v.category).sum ≤ 8) (hR : 1 ≤ R.frames ∧ 24 ≤ R.locals) (kk : qc_X R mi QQ cu su w (pc', lv, .double x.toUInt64 :: st, M)) : qc_X R mi QQ cu su w (pc, lv, .long x :: st, M) := by
  obtain ⟨rfl, hdg⟩ := hd.of (n := 2) rfl
  intro p l e s m args below meth c0 g H locs ls C D S L
  have hst2 : ((st.map (qc_cv g.2.2.1)).map fun v => v.category).sum ≤ 8 := by rw [List.map_map]; simpa [Function.comp_def, qc_cat] using hst
  exact vn_l2d C.1 C.2.1 (C.2.2.2.1.trans L.1.symm) C.2.2.2.2.1 (qj_w hl C.2.2.2.2.2.1) (qj_w qj_l2dN C.2.2.2.2.2.1) (qj_w qj_l2dS C.2.2.2.2.2.1) (qj_w qj_l2dI C.2.2.2.2.2.1) hv hR.1 (by omega) hdg (kk p l e s m args below meth c0 g H locs ls C D S L)
theorem qj_f2iN : qc_pw 1677 (.native ⟨"java/lang/Float", "floatToRawIntBits", "(F)I"⟩) = true := by decide +kernel
theorem qj_f2iS : qc_pw 1676 (.static ⟨"java/lang/Float", "floatToRawIntBits", "(F)I"⟩) = true := by decide +kernel
theorem qj_f2iI : qc_pw 147 (.initialized "java/lang/Float") = true := by decide +kernel
theorem qj_f2iL21_74 : qc_pw 1675 (.methodLink (qc_nm 21) 74 ⟨"java/lang/Float", "floatToRawIntBits", "(F)I"⟩) = true := by decide +kernel
theorem qj_f2i {idx q : Nat} {x : UInt32} (hd : qc_d mi (pc, pc', .invokestatic idx, a, b, v)) (hl : qc_pw q (.methodLink (qc_nm mi.1) idx ⟨"java/lang/Float", "floatToRawIntBits", "(F)I"⟩) = true) (hst : (st.map fun v => v.category).sum ≤ 8) (hR : 1 ≤ R.frames ∧ 24 ≤ R.locals) (kk : qc_X R mi QQ cu su w (pc', lv, .int x.toInt32 :: st, M)) : qc_X R mi QQ cu su w (pc, lv, .float x :: st, M) := by
  obtain ⟨rfl, hdg⟩ := hd.of (n := 2) rfl
  intro p l e s m args below meth c0 g H locs ls C D S L
  have hst2 : ((st.map (qc_cv g.2.2.1)).map fun v => v.category).sum ≤ 8 := by rw [List.map_map]; simpa [Function.comp_def, qc_cat] using hst
  exact vn_f2i C.1 C.2.1 (C.2.2.2.1.trans L.1.symm) C.2.2.2.2.1 (qj_w hl C.2.2.2.2.2.1) (qj_w qj_f2iN C.2.2.2.2.2.1) (qj_w qj_f2iS C.2.2.2.2.2.1) (qj_w qj_f2iI C.2.2.2.2.2.1) hR.1 (by omega) hdg (kk p l e s m args below meth c0 g H locs ls C D S L)
theorem qj_i2fN : qc_pw 1651 (.native ⟨"java/lang/Float", "intBitsToFloat", "(I)F"⟩) = true := by decide +kernel
theorem qj_i2fS : qc_pw 1650 (.static ⟨"java/lang/Float", "intBitsToFloat", "(I)F"⟩) = true := by decide +kernel
theorem qj_i2fI : qc_pw 147 (.initialized "java/lang/Float") = true := by decide +kernel
theorem qj_i2fL12_183 : qc_pw 1649 (.methodLink (qc_nm 12) 183 ⟨"java/lang/Float", "intBitsToFloat", "(I)F"⟩) = true := by decide +kernel
theorem qj_i2f {idx q : Nat} {x : Int32} (hd : qc_d mi (pc, pc', .invokestatic idx, a, b, v)) (hl : qc_pw q (.methodLink (qc_nm mi.1) idx ⟨"java/lang/Float", "intBitsToFloat", "(I)F"⟩) = true) (hv : vn_sni2f x = false) (hst : (st.map fun v => v.category).sum ≤ 8) (hR : 1 ≤ R.frames ∧ 24 ≤ R.locals) (kk : qc_X R mi QQ cu su w (pc', lv, .float x.toUInt32 :: st, M)) : qc_X R mi QQ cu su w (pc, lv, .int x :: st, M) := by
  obtain ⟨rfl, hdg⟩ := hd.of (n := 2) rfl
  intro p l e s m args below meth c0 g H locs ls C D S L
  have hst2 : ((st.map (qc_cv g.2.2.1)).map fun v => v.category).sum ≤ 8 := by rw [List.map_map]; simpa [Function.comp_def, qc_cat] using hst
  exact vn_i2f C.1 C.2.1 (C.2.2.2.1.trans L.1.symm) C.2.2.2.2.1 (qj_w hl C.2.2.2.2.2.1) (qj_w qj_i2fN C.2.2.2.2.2.1) (qj_w qj_i2fS C.2.2.2.2.2.1) (qj_w qj_i2fI C.2.2.2.2.2.1) hv hR.1 (by omega) hdg (kk p l e s m args below meth c0 g H locs ls C D S L)
end QJN
theorem qj_acN : qc_pw 978 (.native arraycopyName) = true := by decide +kernel
theorem qj_acS : qc_pw 977 (.static arraycopyName) = true := by decide +kernel
theorem qj_acI : qc_pw 155 (.initialized "java/lang/System") = true := by decide +kernel
theorem qj_acL7_34 : qc_pw 976 (.methodLink (qc_nm 7) 34 arraycopyName) = true := by decide +kernel
theorem qj_acL17_150 : qc_pw 992 (.methodLink (qc_nm 17) 150 arraycopyName) = true := by decide +kernel
theorem qj_acL1_86 : qc_pw 1094 (.methodLink (qc_nm 1) 86 arraycopyName) = true := by decide +kernel
def qj_cp {α : Type} (f : Nat → Nat → α) (a c sp dp n : Nat) : Nat → Nat → α := fun b => if b = c then va_cpy (f a) (f c) sp dp n else f b
theorem qj_cp_off {α : Type} (f : Nat → Nat → α) {a c b : Nat} (sp dp n : Nat) (h : b ≠ c) : qj_cp f a c sp dp n b = f b := by unfold qj_cp; rw [if_neg h]
theorem qj_cp_on {α : Type} (f : Nat → Nat → α) (a c sp dp n : Nat) : qj_cp f a c sp dp n c = va_cpy (f a) (f c) sp dp n := by unfold qj_cp; rw [if_pos rfl]
/-- may so many be copied from there to there -/
def qj_cok (sp dp n : Int32) (n0 n1 : Nat) : Bool := decide (¬ sp < 0) && decide (¬ dp < 0) && decide (¬ n < 0) && Nat.ble (sp.toNatClampNeg + n.toNatClampNeg) n0 && Nat.ble (dp.toNatClampNeg + n.toNatClampNeg) n1
theorem qj_nn (z : Int32) (hz : ¬ z < 0) : z.toInt = (z.toNatClampNeg : Int) := by
  have hz0 : (0 : Int) ≤ z.toInt := by
    have := Int32.not_lt.mp hz
    simpa using Int32.le_iff_toInt_le.mp this
  show z.toInt = ((z.toInt.toNat : Nat) : Int)
  omega
theorem qj_cpWi {p : Program} {l : Launch} {e : Env} {R : Room} {s : State} {m : MethodId} {args : Array Value} {below : List Frame} {meth : Method} {c : Code} {H : Heap} {locs : List Loc} {cells slots : Nat} {Q : State → Prop} {cc : ByteArray} {pc : Nat} {ls : Array Slot} {rest : List Value} {D : va_G} {cl : List vw_C} {A : Nat → Prop} {a : Nat} {tys : List (ClassId × FieldType)} {ws : va_W} {H0 : Heap} (hexec : p.tables.exec = Jvm.exec) (hb : c.code = cc) (hml : c.maxLocals = ls.size) {own : String} {index : Nat} (hown : s.vm.findClass own = some m.cls) (hlink : (Cond.methodLink own index arraycopyName).before args s = true) (hnat : (Cond.native arraycopyName).before args s = true) (hstat : (Cond.static arraycopyName).before args s = true) (hini : (Cond.initialized "java/lang/System").before args s = true)
    (hK : va_K D cl tys s) (hP : va_P D cl ws H) (hD : va_D A ws) (hS : va_S A H0 H locs) (q0 q1 t0 : Nat) {a0 : Nat} {c0 : ClassId} {n0 n1 : Nat} {f g : Nat → Int32} (ha0 : ws[q0]? = some (a0, .inl (c0, n0, .inl f))) (ha1 : ws[q1]? = some (a, .inl (c0, n1, .inl g))) (ht0 : tys[t0]? = some (c0, .int))
    {sp dp n : Int32} (h1 : ¬ sp < 0) (h2 : ¬ dp < 0) (h3 : ¬ n < 0) (h4 : sp.toNatClampNeg + n.toNatClampNeg ≤ n0) (h5 : dp.toNatClampNeg + n.toNatClampNeg ≤ n1)
    (hframes : 1 ≤ R.frames) (hlocals : (rest.map fun v => v.category).sum + (nativeFrameWords "java/lang/System" "arraycopy" 5 + 11) ≤ R.locals) (hdg : decode cc pc = .ok (.invokestatic index, 3))
    (kk : ∀ (H1 : Heap) (locs1 : List Loc), H1.size = H.size → va_P D cl (ws.set q1 (a, .inl (c0, n1, .inl (va_cpy f g sp.toNatClampNeg dp.toNatClampNeg n.toNatClampNeg)))) H1 → va_S A H0 H1 locs1 → W p l e R s m args below meth c H1 locs1 cells slots Q (F0 m (pc + 3) ls rest)) : W p l e R s m args below meth c H locs cells slots Q (F0 m pc ls (.int n :: .int dp :: .ref a :: .int sp :: .ref a0 :: rest)) := by
  intro T hT X
  have hc0 : H[a0]? = some (arrV c0 n0 (fun j => .int (f j))) := hP q0 _ ha0
  have hc1 : H[a]? = some (arrV c0 n1 (fun j => .int (g j))) := hP q1 _ ha1
  obtain ⟨-, k0, hk0, cm0, hkk0⟩ := (hK.2 t0 _ ht0).1 n0 (fun j => .int (f j))
  have rd : ∀ i : Nat, i < n.toNatClampNeg → (arrV c0 n0 (fun j => .int (f j))).slots.getD (sp.toNatClampNeg + i) .null = .int (f (sp.toNatClampNeg + i)) := by
    intro i hi
    rw [Array.getD_eq_getD_getElem?, arrV_read _ _ (by omega)]
    rfl
  obtain ⟨vm', X', step⟩ := X.arraycopy hexec hown hlink hnat hstat hini (src := a0) (dst := a) (cs := arrV c0 n0 (fun j => .int (f j))) (cd := arrV c0 n1 (fun j => .int (g j))) (srcPos := sp) (destPos := dp) (n := n) (by rw [hT]; exact hc0) (by rw [hT]; exact hc1)
    (fun _ h => by cases h) (fun _ h => by cases h) (fun h => by cases h) (fun h => by cases h) hk0 hk0 hkk0 hkk0 (by simp [refKind]) h1 h2 h3
    (by rw [qj_nn sp h1, qj_nn n h3, arrV_size]; omega)
    (by rw [qj_nn dp h2, qj_nn n h3, arrV_size]; omega)
    (fun vm₁ _ i hi => by rw [rd i hi]; exact ⟨rfl, trivial⟩)
    (g := F0 m pc ls (.int n :: .int dp :: .ref a :: .int sp :: .ref a0 :: rest)) rfl (by rw [hml]) (rest := rest) rfl (by rw [hb]; exact hdg) hframes (by show 2 * 0 + _ + _ ≤ _; omega)
  have e1 : copied (arrV c0 n0 (fun j => .int (f j))) (arrV c0 n1 (fun j => .int (g j))) sp dp n = arrV c0 n1 (fun j => .int (va_cpy f g sp.toNatClampNeg dp.toNatClampNeg n.toNatClampNeg j)) := va_copied (fun z => .int z) c0 c0 f g h4
  rw [e1] at X' step
  have hl : a < H.size := (Array.getElem?_eq_some_iff.mp hc1).1
  have hheap : ((T.setVm vm').setCell a (arrV c0 n1 (fun j => .int (va_cpy f g sp.toNatClampNeg dp.toNatClampNeg n.toNatClampNeg j)))).heap = H.setIfInBounds a (arrV c0 n1 (fun j => .int (va_cpy f g sp.toNatClampNeg dp.toNatClampNeg n.toNatClampNeg j))) := by rw [← hT]; rfl
  have oq : ∀ q : Nat, q ≠ a → (H.setIfInBounds a (arrV c0 n1 (fun j => .int (va_cpy f g sp.toNatClampNeg dp.toNatClampNeg n.toNatClampNeg j))))[q]? = H[q]? := fun q hq => by simp [Array.getElem?_setIfInBounds, Ne.symm hq]
  have hAa : A a := hD.2 q1 _ ha1
  obtain ⟨t, b1, b2⟩ := kk _ _ (by simp) (hP.set hD ha1 (show (H.setIfInBounds a _)[a]? = some _ by simp [Array.getElem?_setIfInBounds, hl]; rfl) oq) ⟨by simp; exact hS.1, fun q g1 g2 => (oq q (fun e => g2 (e ▸ hAa))).trans (hS.2.1 q g1 g2), fun q hq => by
      rcases List.mem_append.mp hq with h | h
      · exact hS.2.2 q h
      · obtain ⟨z, -, hz⟩ := List.mem_map.mp h
        rw [← hz]
        exact hAa⟩ _ hheap X'
  exact ⟨t, step t b1, b2⟩
theorem qd_cpi {s : Nat → Bool} {M' : qcM} {R0 : Room} {mi : qcI} {QQ : qcQ} {cu su : Nat} {w : qcW} {pc pc' : Nat} {lv : List (Nat × Value)} {st : List Value} {I : qTI} {L : qTL} {D : qTD} {R : qTR} {a b q idx a0 a1 n0 n1 : Nat} {v : Value} {sp dp n : Int32} (hd : qc_d mi (pc, pc', .invokestatic idx, a, b, v)) (hl : qc_pw q (.methodLink (qc_nm mi.1) idx arraycopyName) = true) (h0 : qc_ka w a0 100 n0) (h1 : qc_ka w a1 100 n1) (hok : qj_cok sp dp n n0 n1 = true) (hst : (st.map fun v => v.category).sum ≤ 8) (hR : 1 ≤ R0.frames ∧ 40 ≤ R0.locals) (hs : s a1 = true)
    (kk : qc_fm s (qj_cp I a0 a1 sp.toNatClampNeg dp.toNatClampNeg n.toNatClampNeg, L, D, R) M' ∧ qc_X R0 mi QQ cu su w (pc', lv, st, qj_cp I a0 a1 sp.toNatClampNeg dp.toNatClampNeg n.toNatClampNeg, L, D, R)) : qc_fm s (I, L, D, R) M' ∧ qc_X R0 mi QQ cu su w (pc, lv, .int n :: .int dp :: .ref a1 :: .int sp :: .ref a0 :: st, I, L, D, R) := by
  refine ⟨qc_fm.tr (M1 := (qj_cp I a0 a1 sp.toNatClampNeg dp.toNatClampNeg n.toNatClampNeg, L, D, R)) ⟨id, fun _ hb => ?_⟩ kk.1, ?_⟩
  · have hne := qc_s_ne hs hb
    refine ⟨?_, ?_, ?_, ?_⟩ <;> first | rfl | exact qj_cp_off _ _ _ _ hne
  obtain ⟨rfl, hdg⟩ := hd.of (n := 2) rfl
  unfold qj_cok at hok
  simp only [Bool.and_eq_true, decide_eq_true_eq, Nat.ble_eq] at hok
  obtain ⟨⟨⟨⟨k1, k2⟩, k3⟩, k4⟩, k5⟩ := hok
  intro p l e s m args below meth c0 g H locs ls C W0 S L0
  have hst2 : ((st.map (qc_cv g.2.2.1)).map fun v => v.category).sum ≤ 8 := by rw [List.map_map]; simpa [Function.comp_def, qc_cat] using hst
  have hw : nativeFrameWords "java/lang/System" "arraycopy" 5 + 11 ≤ 32 := by decide
  have he0 := h0.get W0.1
  have he1 := h1.get W0.1
  have hk := qc_kd_at h1 W0.1
  refine qj_cpWi C.1 C.2.1 (C.2.2.2.1.trans L0.1.symm) C.2.2.2.2.1 (qj_w hl C.2.2.2.2.2.1) (qj_w qj_acN C.2.2.2.2.2.1) (qj_w qj_acS C.2.2.2.2.2.1) (qj_w qj_acI C.2.2.2.2.2.1) W0.1.2.2.2.2.1 W0.1.2.2.2.1 (qc_D g w (I, L, D, R)) S (a0 - 256) (a1 - 256) 0 he0 he1 rfl k1 k2 k3 k4 k5 hR.1 (by omega) hdg (fun H1 locs1 hz hP hS => ?_)
  refine kk.2 p l e s m args below meth c0 g H1 locs1 ls C (qc_WD.put W0 h1.1 h1.2.1 hz hP hS S ?_ (fun b hb => qc_fv_off id I L D R _ _ _ _ (qj_cp_off _ _ _ _ hb) rfl rfl rfl g _ _)) hS L0
  rw [hk.1, hk.2]
  unfold qc_cell
  simp only [qj_cp_on]
theorem qj_cpWl {p : Program} {l : Launch} {e : Env} {R : Room} {s : State} {m : MethodId} {args : Array Value} {below : List Frame} {meth : Method} {c : Code} {H : Heap} {locs : List Loc} {cells slots : Nat} {Q : State → Prop} {cc : ByteArray} {pc : Nat} {ls : Array Slot} {rest : List Value} {D : va_G} {cl : List vw_C} {A : Nat → Prop} {a : Nat} {tys : List (ClassId × FieldType)} {ws : va_W} {H0 : Heap} (hexec : p.tables.exec = Jvm.exec) (hb : c.code = cc) (hml : c.maxLocals = ls.size) {own : String} {index : Nat} (hown : s.vm.findClass own = some m.cls) (hlink : (Cond.methodLink own index arraycopyName).before args s = true) (hnat : (Cond.native arraycopyName).before args s = true) (hstat : (Cond.static arraycopyName).before args s = true) (hini : (Cond.initialized "java/lang/System").before args s = true)
    (hK : va_K D cl tys s) (hP : va_P D cl ws H) (hD : va_D A ws) (hS : va_S A H0 H locs) (q0 q1 t0 : Nat) {a0 : Nat} {c0 : ClassId} {n0 n1 : Nat} {f g : Nat → Int64} (ha0 : ws[q0]? = some (a0, .inl (c0, n0, .inr (.inl f)))) (ha1 : ws[q1]? = some (a, .inl (c0, n1, .inr (.inl g)))) (ht0 : tys[t0]? = some (c0, .long))
    {sp dp n : Int32} (h1 : ¬ sp < 0) (h2 : ¬ dp < 0) (h3 : ¬ n < 0) (h4 : sp.toNatClampNeg + n.toNatClampNeg ≤ n0) (h5 : dp.toNatClampNeg + n.toNatClampNeg ≤ n1)
    (hframes : 1 ≤ R.frames) (hlocals : (rest.map fun v => v.category).sum + (nativeFrameWords "java/lang/System" "arraycopy" 5 + 11) ≤ R.locals) (hdg : decode cc pc = .ok (.invokestatic index, 3))
    (kk : ∀ (H1 : Heap) (locs1 : List Loc), H1.size = H.size → va_P D cl (ws.set q1 (a, .inl (c0, n1, .inr (.inl (va_cpy f g sp.toNatClampNeg dp.toNatClampNeg n.toNatClampNeg))))) H1 → va_S A H0 H1 locs1 → W p l e R s m args below meth c H1 locs1 cells slots Q (F0 m (pc + 3) ls rest)) : W p l e R s m args below meth c H locs cells slots Q (F0 m pc ls (.int n :: .int dp :: .ref a :: .int sp :: .ref a0 :: rest)) := by
  intro T hT X
  have hc0 : H[a0]? = some (arrV c0 n0 (fun j => .long (f j))) := hP q0 _ ha0
  have hc1 : H[a]? = some (arrV c0 n1 (fun j => .long (g j))) := hP q1 _ ha1
  obtain ⟨-, k0, hk0, cm0, hkk0⟩ := (hK.2 t0 _ ht0).1 n0 (fun j => .long (f j))
  have rd : ∀ i : Nat, i < n.toNatClampNeg → (arrV c0 n0 (fun j => .long (f j))).slots.getD (sp.toNatClampNeg + i) .null = .long (f (sp.toNatClampNeg + i)) := by
    intro i hi
    rw [Array.getD_eq_getD_getElem?, arrV_read _ _ (by omega)]
    rfl
  obtain ⟨vm', X', step⟩ := X.arraycopy hexec hown hlink hnat hstat hini (src := a0) (dst := a) (cs := arrV c0 n0 (fun j => .long (f j))) (cd := arrV c0 n1 (fun j => .long (g j))) (srcPos := sp) (destPos := dp) (n := n) (by rw [hT]; exact hc0) (by rw [hT]; exact hc1)
    (fun _ h => by cases h) (fun _ h => by cases h) (fun h => by cases h) (fun h => by cases h) hk0 hk0 hkk0 hkk0 (by simp [refKind]) h1 h2 h3
    (by rw [qj_nn sp h1, qj_nn n h3, arrV_size]; omega)
    (by rw [qj_nn dp h2, qj_nn n h3, arrV_size]; omega)
    (fun vm₁ _ i hi => by rw [rd i hi]; exact ⟨rfl, trivial⟩)
    (g := F0 m pc ls (.int n :: .int dp :: .ref a :: .int sp :: .ref a0 :: rest)) rfl (by rw [hml]) (rest := rest) rfl (by rw [hb]; exact hdg) hframes (by show 2 * 0 + _ + _ ≤ _; omega)
  have e1 : copied (arrV c0 n0 (fun j => .long (f j))) (arrV c0 n1 (fun j => .long (g j))) sp dp n = arrV c0 n1 (fun j => .long (va_cpy f g sp.toNatClampNeg dp.toNatClampNeg n.toNatClampNeg j)) := va_copied (fun z => .long z) c0 c0 f g h4
  rw [e1] at X' step
  have hl : a < H.size := (Array.getElem?_eq_some_iff.mp hc1).1
  have hheap : ((T.setVm vm').setCell a (arrV c0 n1 (fun j => .long (va_cpy f g sp.toNatClampNeg dp.toNatClampNeg n.toNatClampNeg j)))).heap = H.setIfInBounds a (arrV c0 n1 (fun j => .long (va_cpy f g sp.toNatClampNeg dp.toNatClampNeg n.toNatClampNeg j))) := by rw [← hT]; rfl
  have oq : ∀ q : Nat, q ≠ a → (H.setIfInBounds a (arrV c0 n1 (fun j => .long (va_cpy f g sp.toNatClampNeg dp.toNatClampNeg n.toNatClampNeg j))))[q]? = H[q]? := fun q hq => by simp [Array.getElem?_setIfInBounds, Ne.symm hq]
  have hAa : A a := hD.2 q1 _ ha1
  obtain ⟨t, b1, b2⟩ := kk _ _ (by simp) (hP.set hD ha1 (show (H.setIfInBounds a _)[a]? = some _ by simp [Array.getElem?_setIfInBounds, hl]; rfl) oq) ⟨by simp; exact hS.1, fun q g1 g2 => (oq q (fun e => g2 (e ▸ hAa))).trans (hS.2.1 q g1 g2), fun q hq => by
      rcases List.mem_append.mp hq with h | h
      · exact hS.2.2 q h
      · obtain ⟨z, -, hz⟩ := List.mem_map.mp h
        rw [← hz]
        exact hAa⟩ _ hheap X'
  exact ⟨t, step t b1, b2⟩
theorem qd_cpl {s : Nat → Bool} {M' : qcM} {R0 : Room} {mi : qcI} {QQ : qcQ} {cu su : Nat} {w : qcW} {pc pc' : Nat} {lv : List (Nat × Value)} {st : List Value} {I : qTI} {L : qTL} {D : qTD} {R : qTR} {a b q idx a0 a1 n0 n1 : Nat} {v : Value} {sp dp n : Int32} (hd : qc_d mi (pc, pc', .invokestatic idx, a, b, v)) (hl : qc_pw q (.methodLink (qc_nm mi.1) idx arraycopyName) = true) (h0 : qc_ka w a0 101 n0) (h1 : qc_ka w a1 101 n1) (hok : qj_cok sp dp n n0 n1 = true) (hst : (st.map fun v => v.category).sum ≤ 8) (hR : 1 ≤ R0.frames ∧ 40 ≤ R0.locals) (hs : s a1 = true)
    (kk : qc_fm s (I, qj_cp L a0 a1 sp.toNatClampNeg dp.toNatClampNeg n.toNatClampNeg, D, R) M' ∧ qc_X R0 mi QQ cu su w (pc', lv, st, I, qj_cp L a0 a1 sp.toNatClampNeg dp.toNatClampNeg n.toNatClampNeg, D, R)) : qc_fm s (I, L, D, R) M' ∧ qc_X R0 mi QQ cu su w (pc, lv, .int n :: .int dp :: .ref a1 :: .int sp :: .ref a0 :: st, I, L, D, R) := by
  refine ⟨qc_fm.tr (M1 := (I, qj_cp L a0 a1 sp.toNatClampNeg dp.toNatClampNeg n.toNatClampNeg, D, R)) ⟨id, fun _ hb => ?_⟩ kk.1, ?_⟩
  · have hne := qc_s_ne hs hb
    refine ⟨?_, ?_, ?_, ?_⟩ <;> first | rfl | exact qj_cp_off _ _ _ _ hne
  obtain ⟨rfl, hdg⟩ := hd.of (n := 2) rfl
  unfold qj_cok at hok
  simp only [Bool.and_eq_true, decide_eq_true_eq, Nat.ble_eq] at hok
  obtain ⟨⟨⟨⟨k1, k2⟩, k3⟩, k4⟩, k5⟩ := hok
  intro p l e s m args below meth c0 g H locs ls C W0 S L0
  have hst2 : ((st.map (qc_cv g.2.2.1)).map fun v => v.category).sum ≤ 8 := by rw [List.map_map]; simpa [Function.comp_def, qc_cat] using hst
  have hw : nativeFrameWords "java/lang/System" "arraycopy" 5 + 11 ≤ 32 := by decide
  have he0 := h0.get W0.1
  have he1 := h1.get W0.1
  have hk := qc_kd_at h1 W0.1
  refine qj_cpWl C.1 C.2.1 (C.2.2.2.1.trans L0.1.symm) C.2.2.2.2.1 (qj_w hl C.2.2.2.2.2.1) (qj_w qj_acN C.2.2.2.2.2.1) (qj_w qj_acS C.2.2.2.2.2.1) (qj_w qj_acI C.2.2.2.2.2.1) W0.1.2.2.2.2.1 W0.1.2.2.2.1 (qc_D g w (I, L, D, R)) S (a0 - 256) (a1 - 256) 1 he0 he1 rfl k1 k2 k3 k4 k5 hR.1 (by omega) hdg (fun H1 locs1 hz hP hS => ?_)
  refine kk.2 p l e s m args below meth c0 g H1 locs1 ls C (qc_WD.put W0 h1.1 h1.2.1 hz hP hS S ?_ (fun b hb => qc_fv_off id I L D R _ _ _ _ rfl (qj_cp_off _ _ _ _ hb) rfl rfl g _ _)) hS L0
  rw [hk.1, hk.2]
  unfold qc_cell
  simp only [qj_cp_on]
theorem qj_cpWd {p : Program} {l : Launch} {e : Env} {R : Room} {s : State} {m : MethodId} {args : Array Value} {below : List Frame} {meth : Method} {c : Code} {H : Heap} {locs : List Loc} {cells slots : Nat} {Q : State → Prop} {cc : ByteArray} {pc : Nat} {ls : Array Slot} {rest : List Value} {D : va_G} {cl : List vw_C} {A : Nat → Prop} {a : Nat} {tys : List (ClassId × FieldType)} {ws : va_W} {H0 : Heap} (hexec : p.tables.exec = Jvm.exec) (hb : c.code = cc) (hml : c.maxLocals = ls.size) {own : String} {index : Nat} (hown : s.vm.findClass own = some m.cls) (hlink : (Cond.methodLink own index arraycopyName).before args s = true) (hnat : (Cond.native arraycopyName).before args s = true) (hstat : (Cond.static arraycopyName).before args s = true) (hini : (Cond.initialized "java/lang/System").before args s = true)
    (hK : va_K D cl tys s) (hP : va_P D cl ws H) (hD : va_D A ws) (hS : va_S A H0 H locs) (q0 q1 t0 : Nat) {a0 : Nat} {c0 : ClassId} {n0 n1 : Nat} {f g : Nat → UInt64} (ha0 : ws[q0]? = some (a0, .inl (c0, n0, .inr (.inr (.inr (.inl f)))))) (ha1 : ws[q1]? = some (a, .inl (c0, n1, .inr (.inr (.inr (.inl g)))))) (ht0 : tys[t0]? = some (c0, .double))
    {sp dp n : Int32} (h1 : ¬ sp < 0) (h2 : ¬ dp < 0) (h3 : ¬ n < 0) (h4 : sp.toNatClampNeg + n.toNatClampNeg ≤ n0) (h5 : dp.toNatClampNeg + n.toNatClampNeg ≤ n1)
    (hframes : 1 ≤ R.frames) (hlocals : (rest.map fun v => v.category).sum + (nativeFrameWords "java/lang/System" "arraycopy" 5 + 11) ≤ R.locals) (hdg : decode cc pc = .ok (.invokestatic index, 3))
    (kk : ∀ (H1 : Heap) (locs1 : List Loc), H1.size = H.size → va_P D cl (ws.set q1 (a, .inl (c0, n1, .inr (.inr (.inr (.inl (va_cpy f g sp.toNatClampNeg dp.toNatClampNeg n.toNatClampNeg))))))) H1 → va_S A H0 H1 locs1 → W p l e R s m args below meth c H1 locs1 cells slots Q (F0 m (pc + 3) ls rest)) : W p l e R s m args below meth c H locs cells slots Q (F0 m pc ls (.int n :: .int dp :: .ref a :: .int sp :: .ref a0 :: rest)) := by
  intro T hT X
  have hc0 : H[a0]? = some (arrV c0 n0 (fun j => .double (f j))) := hP q0 _ ha0
  have hc1 : H[a]? = some (arrV c0 n1 (fun j => .double (g j))) := hP q1 _ ha1
  obtain ⟨-, k0, hk0, cm0, hkk0⟩ := (hK.2 t0 _ ht0).1 n0 (fun j => .double (f j))
  have rd : ∀ i : Nat, i < n.toNatClampNeg → (arrV c0 n0 (fun j => .double (f j))).slots.getD (sp.toNatClampNeg + i) .null = .double (f (sp.toNatClampNeg + i)) := by
    intro i hi
    rw [Array.getD_eq_getD_getElem?, arrV_read _ _ (by omega)]
    rfl
  obtain ⟨vm', X', step⟩ := X.arraycopy hexec hown hlink hnat hstat hini (src := a0) (dst := a) (cs := arrV c0 n0 (fun j => .double (f j))) (cd := arrV c0 n1 (fun j => .double (g j))) (srcPos := sp) (destPos := dp) (n := n) (by rw [hT]; exact hc0) (by rw [hT]; exact hc1)
    (fun _ h => by cases h) (fun _ h => by cases h) (fun h => by cases h) (fun h => by cases h) hk0 hk0 hkk0 hkk0 (by simp [refKind]) h1 h2 h3
    (by rw [qj_nn sp h1, qj_nn n h3, arrV_size]; omega)
    (by rw [qj_nn dp h2, qj_nn n h3, arrV_size]; omega)
    (fun vm₁ _ i hi => by rw [rd i hi]; exact ⟨rfl, trivial⟩)
    (g := F0 m pc ls (.int n :: .int dp :: .ref a :: .int sp :: .ref a0 :: rest)) rfl (by rw [hml]) (rest := rest) rfl (by rw [hb]; exact hdg) hframes (by show 2 * 0 + _ + _ ≤ _; omega)
  have e1 : copied (arrV c0 n0 (fun j => .double (f j))) (arrV c0 n1 (fun j => .double (g j))) sp dp n = arrV c0 n1 (fun j => .double (va_cpy f g sp.toNatClampNeg dp.toNatClampNeg n.toNatClampNeg j)) := va_copied (fun z => .double z) c0 c0 f g h4
  rw [e1] at X' step
  have hl : a < H.size := (Array.getElem?_eq_some_iff.mp hc1).1
  have hheap : ((T.setVm vm').setCell a (arrV c0 n1 (fun j => .double (va_cpy f g sp.toNatClampNeg dp.toNatClampNeg n.toNatClampNeg j)))).heap = H.setIfInBounds a (arrV c0 n1 (fun j => .double (va_cpy f g sp.toNatClampNeg dp.toNatClampNeg n.toNatClampNeg j))) := by rw [← hT]; rfl
  have oq : ∀ q : Nat, q ≠ a → (H.setIfInBounds a (arrV c0 n1 (fun j => .double (va_cpy f g sp.toNatClampNeg dp.toNatClampNeg n.toNatClampNeg j))))[q]? = H[q]? := fun q hq => by simp [Array.getElem?_setIfInBounds, Ne.symm hq]
  have hAa : A a := hD.2 q1 _ ha1
  obtain ⟨t, b1, b2⟩ := kk _ _ (by simp) (hP.set hD ha1 (show (H.setIfInBounds a _)[a]? = some _ by simp [Array.getElem?_setIfInBounds, hl]; rfl) oq) ⟨by simp; exact hS.1, fun q g1 g2 => (oq q (fun e => g2 (e ▸ hAa))).trans (hS.2.1 q g1 g2), fun q hq => by
      rcases List.mem_append.mp hq with h | h
      · exact hS.2.2 q h
      · obtain ⟨z, -, hz⟩ := List.mem_map.mp h
        rw [← hz]
        exact hAa⟩ _ hheap X'
  exact ⟨t, step t b1, b2⟩
theorem qd_cpd {s : Nat → Bool} {M' : qcM} {R0 : Room} {mi : qcI} {QQ : qcQ} {cu su : Nat} {w : qcW} {pc pc' : Nat} {lv : List (Nat × Value)} {st : List Value} {I : qTI} {L : qTL} {D : qTD} {R : qTR} {a b q idx a0 a1 n0 n1 : Nat} {v : Value} {sp dp n : Int32} (hd : qc_d mi (pc, pc', .invokestatic idx, a, b, v)) (hl : qc_pw q (.methodLink (qc_nm mi.1) idx arraycopyName) = true) (h0 : qc_ka w a0 102 n0) (h1 : qc_ka w a1 102 n1) (hok : qj_cok sp dp n n0 n1 = true) (hst : (st.map fun v => v.category).sum ≤ 8) (hR : 1 ≤ R0.frames ∧ 40 ≤ R0.locals) (hs : s a1 = true)
    (kk : qc_fm s (I, L, qj_cp D a0 a1 sp.toNatClampNeg dp.toNatClampNeg n.toNatClampNeg, R) M' ∧ qc_X R0 mi QQ cu su w (pc', lv, st, I, L, qj_cp D a0 a1 sp.toNatClampNeg dp.toNatClampNeg n.toNatClampNeg, R)) : qc_fm s (I, L, D, R) M' ∧ qc_X R0 mi QQ cu su w (pc, lv, .int n :: .int dp :: .ref a1 :: .int sp :: .ref a0 :: st, I, L, D, R) := by
  refine ⟨qc_fm.tr (M1 := (I, L, qj_cp D a0 a1 sp.toNatClampNeg dp.toNatClampNeg n.toNatClampNeg, R)) ⟨id, fun _ hb => ?_⟩ kk.1, ?_⟩
  · have hne := qc_s_ne hs hb
    refine ⟨?_, ?_, ?_, ?_⟩ <;> first | rfl | exact qj_cp_off _ _ _ _ hne
  obtain ⟨rfl, hdg⟩ := hd.of (n := 2) rfl
  unfold qj_cok at hok
  simp only [Bool.and_eq_true, decide_eq_true_eq, Nat.ble_eq] at hok
  obtain ⟨⟨⟨⟨k1, k2⟩, k3⟩, k4⟩, k5⟩ := hok
  intro p l e s m args below meth c0 g H locs ls C W0 S L0
  have hst2 : ((st.map (qc_cv g.2.2.1)).map fun v => v.category).sum ≤ 8 := by rw [List.map_map]; simpa [Function.comp_def, qc_cat] using hst
  have hw : nativeFrameWords "java/lang/System" "arraycopy" 5 + 11 ≤ 32 := by decide
  have he0 := h0.get W0.1
  have he1 := h1.get W0.1
  have hk := qc_kd_at h1 W0.1
  refine qj_cpWd C.1 C.2.1 (C.2.2.2.1.trans L0.1.symm) C.2.2.2.2.1 (qj_w hl C.2.2.2.2.2.1) (qj_w qj_acN C.2.2.2.2.2.1) (qj_w qj_acS C.2.2.2.2.2.1) (qj_w qj_acI C.2.2.2.2.2.1) W0.1.2.2.2.2.1 W0.1.2.2.2.1 (qc_D g w (I, L, D, R)) S (a0 - 256) (a1 - 256) 2 he0 he1 rfl k1 k2 k3 k4 k5 hR.1 (by omega) hdg (fun H1 locs1 hz hP hS => ?_)
  refine kk.2 p l e s m args below meth c0 g H1 locs1 ls C (qc_WD.put W0 h1.1 h1.2.1 hz hP hS S ?_ (fun b hb => qc_fv_off id I L D R _ _ _ _ rfl rfl (qj_cp_off _ _ _ _ hb) rfl g _ _)) hS L0
  rw [hk.1, hk.2]
  unfold qc_cell
  simp only [qj_cp_on]
theorem qc_metF {l : Launch} {y : MethodName} {ws ws' : List Cond} {rm : Room} {Pc : Array Value → State → Prop} {Qc : Array Value → State → Outcome → State → Prop} {mc ms : Nat} {free : Addr → Prop} {cc : ByteArray} {maxL : Nat} {ret : Option FieldType}
    (hy : plainFor y = true) (hw : ws = Cond.code y cc maxL ret :: ws')
    (body : ∀ p e s m args below meth c s₁, BodyLoose p l y (headSpec ws rm) cc maxL ret e s m args below meth c s₁ → c.maxLocals = maxL → Pc args s →
      W p l e (headSpec ws rm).room s m args below meth c s.heap [] 0 0 (MQ below Qc args s mc ms free) (entryFrame m args maxL)) : Met l y ws rm Pc Qc mc ms free := by
  refine MetFree.of_bodySF (code := cc) (maxLocals := maxL) (ret := ret) hy ?_ ?_
  · intro args s m h hn
    obtain ⟨meth, c, h1, h2, h3, h4, h5, h6, -, -⟩ := Cond.code_spec hn (atoms_spec (ws := ws) h _ (by rw [hw]; exact List.mem_cons_self))
    exact ⟨meth, c, h1, h2, h3, h4, h5, h6⟩
  · intro p e s m args below meth c s₁ B hml hP _
    have hh0 : s₁.heap = s.heap := by rw [B.state]; rfl
    obtain ⟨t, a1, o, b1, b2, b3⟩ := body p e s m args below meth c s₁ B hml hP s₁ hh0 (Stand.of_body B)
    exact ⟨t, o, a1, b1, b2, ⟨b3.1, b3.2⟩⟩
theorem qc_V.ofF {d mc ms : Nat} {mi : qcI} {as : List Value} {w : qcW} {M : qcM} {Z : qcZ} (hy : plainFor mi.2.1 = true) (ho : mi.2.1.cls = qc_nm mi.1) (hn : (lg_sl as).length ≤ mi.2.2.2.1) {lv : List (Nat × Value)} (hl : lv_args 0 as = lv)
    (h : qc_X (qc_rm d mc ms) mi (qc_QM mc ms Z) 0 0 w (0, lv, [], M)) : qc_V d mc ms mi as w M Z := by
  intro l g
  refine qc_metF (cc := mi.2.2.1) (maxL := mi.2.2.2.1) (ret := mi.2.2.2.2) hy rfl ?_
  intro p e s m args below meth c s₁ B hml hv
  obtain ⟨rfl, hW, hN⟩ := hv
  have hts : ∀ w ∈ qc_wg, w.before _ s = true := fun w hw => atoms_spec (ws := qc_ws mi) B.pre w (List.mem_cons_of_mem _ hw)
  have hown : s.vm.findClass mi.2.1.cls = some m.cls := findClass_of_methodNamed B.named
  have hlen : (lg_sl (as.map (qc_cv g.2.2.1))).length ≤ mi.2.2.2.1 := by rw [qc_lg_len]; exact hn
  have hl2 := lv_entry (as.map (qc_cv g.2.2.1)) (n := mi.2.2.2.1) hlen
  rw [lg_entry_eq]
  generalize (lg_sl (as.map (qc_cv g.2.2.1)) ++ List.replicate (mi.2.2.2.1 - (lg_sl (as.map (qc_cv g.2.2.1))).length) Slot.unset).toArray = ls at hl2 ⊢
  rw [qc_lv_args, hl] at hl2
  exact h p l e s m _ below meth c g s.heap [] ls ⟨B.exec, B.bytes, B.returns, hml, by rw [← ho]; exact hown, hts, B.notSynchronized, (name_of_methodNamed B.named B.method).1, hN⟩ ⟨hW, by have h1 := hW.1; have h2 := hW.2.1; omega⟩ va_S.rf hl2
