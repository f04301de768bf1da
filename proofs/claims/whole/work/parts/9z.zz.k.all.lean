/-! the pairs, over the state between calls -/
theorem qv_mk2 {ρ : Type} {vl : ρ → Value} {w : qcW} {fX fM : qTI → qTL → qTD → qTR → qcO ρ} {mX mM : qcI} {as : List Value} {ok : Value → Prop} {d d2 : Nat} {I : qTI} {L : qTL} {D : qTD} {R : qTR} (hI : Iv w (I, L, D, R)) (hd : d ≤ 1000) (hd2 : d2 ≤ 1000) (hok : ∀ r, ok (vl r)) (h : qv_pp w fX fM (I, L, D, R))
    (tX : ∀ {I' : qTI} {L' : qTL} {D' : qTD} {R' : qTR} {r : ρ}, fX I L D R = some (r, I', L', D', R') → qc_fm qcSX (I, L, D, R) (I', L', D', R') ∧ qc_V d 0 0 mX (.ref 256 :: as) w (I, L, D, R) (qc_eq (some (vl r)) w (I', L', D', R')))
    (tM : ∀ {I : qTI} {L : qTL} {D : qTD} {R : qTR} {I' : qTI} {L' : qTL} {D' : qTD} {R' : qTR} {r : ρ}, qc_FR R → fM I L D R = some (r, I', L', D', R') → qc_fm qcSM (I, L, D, R) (I', L', D', R') ∧ qc_V d2 0 0 mM (.ref 291 :: as) w (I, L, D, R) (qc_eq (some (vl r)) w (I', L', D', R'))) : qc_pr Iv mX mM as w (I, L, D, R) ok := by
  obtain ⟨r, I1, L1, D1, R1, I2, L2, D2, R2, e1, e2, e3⟩ := h
  obtain ⟨f1, v1⟩ := tX e1
  have hR1 : qc_FR R1 := f1.1 hI.1.2.1
  obtain ⟨f2, v2⟩ := tM hR1 e2
  have hR2 : qc_FR R2 := f2.1 hR1
  refine ⟨d, 0, 0, d2, hd, by decide, by decide, hd2, qc_V.mono v1 (fun r' w1 M1 hz => ?_)⟩
  obtain ⟨rfl, rfl, rfl⟩ := hz
  refine ⟨vl r, rfl, hok r, hI.1.1, qc_V.mono v2 (fun r'' w2 M2 hz => ?_)⟩
  obtain ⟨rfl, rfl, rfl⟩ := hz
  exact ⟨rfl, e3 hR2, hI.2⟩
theorem q2_objects {w : qcW} {I : qTI} {L : qTL} {D : qTD} {R : qTR} (h : Iv w (I, L, D, R)) (a : Int32) : qc_pr Iv qmX11_objects qmX12_objects [.int a] w (I, L, D, R) qc_oki :=
  qv_mk2 (vl := .int) h (by decide) (by decide) qc_oki_of (pp_objects h.1 a) (fun e => tX11_objects h.1.1 h.1.2.1 e) (fun hR e => tX12_objects h.1.1 hR e)
theorem q2_column {w : qcW} {I : qTI} {L : qTL} {D : qTD} {R : qTR} (h : Iv w (I, L, D, R)) (a : Int32) (b : Int32) (c : Int32) : qc_pr Iv qmX11_column qmX12_column [.int a, .int b, .int c] w (I, L, D, R) qc_oki :=
  qv_mk2 (vl := .int) h (by decide) (by decide) qc_oki_of (pp_column h.1 a b c) (fun e => tX11_column h.1.1 h.1.2.1 e) (fun hR e => tX12_column h.1.1 hR e)
theorem q2_share {w : qcW} {I : qTI} {L : qTL} {D : qTD} {R : qTR} (h : Iv w (I, L, D, R)) (a : Int32) (b : Int32) : qc_pr Iv qmX11_share qmX12_share [.int a, .int b] w (I, L, D, R) qc_oki :=
  qv_mk2 (vl := .int) h (by decide) (by decide) qc_oki_of (pp_share h.1 a b) (fun e => tX11_share h.1.1 h.1.2.1 e) (fun hR e => tX12_share h.1.1 hR e)
theorem q2_drop {w : qcW} {I : qTI} {L : qTL} {D : qTD} {R : qTR} (h : Iv w (I, L, D, R)) (a : Int32) : qc_pr Iv qmX11_drop qmX12_drop [.int a] w (I, L, D, R) qc_oki :=
  qv_mk2 (vl := .int) h (by decide) (by decide) qc_oki_of (pp_drop h.1 a) (fun e => tX11_drop h.1.1 h.1.2.1 e) (fun hR e => tX12_drop h.1.1 hR e)
theorem q2_put {w : qcW} {I : qTI} {L : qTL} {D : qTD} {R : qTR} (h : Iv w (I, L, D, R)) (a : Int32) (b : Int32) (c : Int64) : qc_pr Iv qmX11_put qmX12_put [.int a, .int b, .long c] w (I, L, D, R) qc_oki :=
  qv_mk2 (vl := .int) h (by decide) (by decide) qc_oki_of (pp_put h.1 a b c) (fun e => tX11_put h.1.1 h.1.2.1 e) (fun hR e => tX12_put h.1.1 hR e)
theorem q2_cell {w : qcW} {I : qTI} {L : qTL} {D : qTD} {R : qTR} (h : Iv w (I, L, D, R)) (a : Int32) (b : Int32) : qc_pr Iv qmX11_cell qmX12_cell [.int a, .int b] w (I, L, D, R) qc_okl :=
  qv_mk2 (vl := .long) h (by decide) (by decide) qc_okl_of (pp_cell h.1 a b) (fun e => tX11_cell h.1.1 h.1.2.1 e) (fun hR e => tX12_cell h.1.1 hR e)
theorem q2_about {w : qcW} {I : qTI} {L : qTL} {D : qTD} {R : qTR} (h : Iv w (I, L, D, R)) (a : Int32) (b : Int32) : qc_pr Iv qmX11_about qmX12_about [.int a, .int b] w (I, L, D, R) qc_oki :=
  qv_mk2 (vl := .int) h (by decide) (by decide) qc_oki_of (pp_about h.1 a b) (fun e => tX11_about h.1.1 h.1.2.1 e) (fun hR e => tX12_about h.1.1 hR e)
theorem q2_feed {w : qcW} {I : qTI} {L : qTL} {D : qTD} {R : qTR} (h : Iv w (I, L, D, R)) (a : Int32) (b : Int32) (c : Int32) (d : Int32) (e : Int32) : qc_pr Iv qmX11_feed qmX12_feed [.int a, .int b, .int c, .int d, .int e] w (I, L, D, R) qc_oki :=
  qv_mk2 (vl := .int) h (by decide) (by decide) qc_oki_of (pp_feed h.1 a b c d e) (fun e => tX11_feed h.1.1 h.1.2.1 e) (fun hR e => tX12_feed h.1.1 hR e)
theorem q2_end {w : qcW} {I : qTI} {L : qTL} {D : qTD} {R : qTR} (h : Iv w (I, L, D, R)) (a : Int32) : qc_pr Iv qmX11_end qmX12_end [.int a] w (I, L, D, R) qc_oki :=
  qv_mk2 (vl := .int) h (by decide) (by decide) qc_oki_of (pp_end h.1 a) (fun e => tX11_end h.1.1 h.1.2.1 e) (fun hR e => tX12_end h.1.1 hR e)
theorem q2_fault {w : qcW} {I : qTI} {L : qTL} {D : qTD} {R : qTR} (h : Iv w (I, L, D, R)) : qc_pr Iv qmX11_fault qmX12_fault [] w (I, L, D, R) qc_oki :=
  qv_mk2 (vl := .int) h (by decide) (by decide) qc_oki_of (pp_fault h.1) (fun e => tX11_fault h.1.1 h.1.2.1 e) (fun hR e => tX12_fault h.1.1 hR e)
theorem q2_acts {w : qcW} {I : qTI} {L : qTL} {D : qTD} {R : qTR} (h : Iv w (I, L, D, R)) (a : Int32) (b : Int32) : qc_pr Iv qmX11_acts qmX12_acts [.int a, .int b] w (I, L, D, R) qc_oki :=
  qv_mk2 (vl := .int) h (by decide) (by decide) qc_oki_of (pp_acts h.1 a b) (fun e => tX11_acts h.1.1 h.1.2.1 e) (fun hR e => tX12_acts h.1.1 hR e)
theorem q2_act {w : qcW} {I : qTI} {L : qTL} {D : qTD} {R : qTR} (h : Iv w (I, L, D, R)) (a : Int32) (b : Int32) (c : Int32) (d : Int32) : qc_pr Iv qmX11_act qmX12_act [.int a, .int b, .int c, .int d] w (I, L, D, R) qc_oki :=
  qv_mk2 (vl := .int) h (by decide) (by decide) qc_oki_of (pp_act h.1 a b c d) (fun e => tX11_act h.1.1 h.1.2.1 e) (fun hR e => tX12_act h.1.1 hR e)
theorem q2_run {w : qcW} {I : qTI} {L : qTL} {D : qTD} {R : qTR} (h : Iv w (I, L, D, R)) (a : Int32) : qc_pr Iv qmX11_run qmX12_run [.int a] w (I, L, D, R) qc_oki :=
  qv_mk2 (vl := .int) h (by decide) (by decide) qc_oki_of (pp_run h.1 a (fun {r M'} e => (tX11_run (I' := M'.1) (L' := M'.2.1) (D' := M'.2.2.1) (R' := M'.2.2.2) h.1.1 h.1.2.1 e).1) (fun {I L D R r M'} hR e => (tX12_run (I' := M'.1) (L' := M'.2.1) (D' := M'.2.2.1) (R' := M'.2.2.2) h.1.1 hR e).1)) (fun e => tX11_run h.1.1 h.1.2.1 e) (fun hR e => tX12_run h.1.1 hR e)
theorem q2_told {w : qcW} {I : qTI} {L : qTL} {D : qTD} {R : qTR} (h : Iv w (I, L, D, R)) (a : Int32) : qc_pr Iv qmX11_told qmX12_told [.int a] w (I, L, D, R) qc_oki :=
  qv_mk2 (vl := .int) h (by decide) (by decide) qc_oki_of (pp_told h.1 a) (fun e => tX11_told h.1.1 h.1.2.1 e) (fun hR e => tX12_told h.1.1 hR e)
theorem q2_hit {w : qcW} {I : qTI} {L : qTL} {D : qTD} {R : qTR} (h : Iv w (I, L, D, R)) (a : Int32) : qc_pr Iv qmX11_hit qmX12_hit_ [.int a] w (I, L, D, R) qc_oki :=
  qv_mk2 (vl := .int) h (by decide) (by decide) qc_oki_of (pp_hit h.1 a) (fun e => tX11_hit h.1.1 h.1.2.1 e) (fun hR e => tX12_hit_ h.1.1 hR e)
theorem q2_score {w : qcW} {I : qTI} {L : qTL} {D : qTD} {R : qTR} (h : Iv w (I, L, D, R)) (a : Int32) : qc_pr Iv qmX11_score qmX12_score [.int a] w (I, L, D, R) qc_okl :=
  qv_mk2 (vl := .long) h (by decide) (by decide) qc_okl_of (pp_score h.1 a) (fun e => tX11_score h.1.1 h.1.2.1 e) (fun hR e => tX12_score h.1.1 hR e)
theorem q2_value {w : qcW} {I : qTI} {L : qTL} {D : qTD} {R : qTR} (h : Iv w (I, L, D, R)) (a : Int32) : qc_pr Iv qmX11_value qmX12_value [.int a] w (I, L, D, R) qc_okl :=
  qv_mk2 (vl := .long) h (by decide) (by decide) qc_okl_of (pp_value h.1 a) (fun e => tX11_value h.1.1 h.1.2.1 e) (fun hR e => tX12_value h.1.1 hR e)
theorem q2_count {w : qcW} {I : qTI} {L : qTL} {D : qTD} {R : qTR} (h : Iv w (I, L, D, R)) (a : Int32) : qc_pr Iv qmX11_count qmX12_count [.int a] w (I, L, D, R) qc_oki :=
  qv_mk2 (vl := .int) h (by decide) (by decide) qc_oki_of (pp_count h.1 a) (fun e => tX11_count h.1.1 h.1.2.1 e) (fun hR e => tX12_count h.1.1 hR e)
theorem q2_clear {w : qcW} {I : qTI} {L : qTL} {D : qTD} {R : qTR} (h : Iv w (I, L, D, R)) : qc_pr Iv qmX11_clear qmX12_clear [] w (I, L, D, R) qc_oki :=
  qv_mk2 (vl := .int) h (by decide) (by decide) qc_oki_of (pp_clear h.1) (fun e => tX11_clear h.1.1 h.1.2.1 e) (fun hR e => tX12_clear h.1.1 hR e)
theorem q2_all : qc_prs Iv := by
  intro w M h
  obtain ⟨I, L, D, R⟩ := M
  exact ⟨h.1.1, fun a => q2_objects h a, fun a b c => q2_column h a b c, fun a b => q2_share h a b, fun a => q2_drop h a, fun a b c => q2_put h a b c, fun a b => q2_cell h a b, fun a b => q2_about h a b, fun a b c d e => q2_feed h a b c d e, fun a => q2_end h a, q2_query h.1 h.2, q2_fault h, fun a b => q2_acts h a b, fun a b c d => q2_act h a b c d, fun a => q2_run h a, fun a => q2_told h a, fun a => q2_hit h a, fun a => q2_score h a, fun a => q2_value h a, fun a => q2_count h a, q2_clear h⟩
set_option maxRecDepth 100000 in
theorem q2_WF (kd ln : Nat → Nat) : qc_WF (qe_w kd ln) := by
  refine ⟨Nat.le_of_ble_eq_true rfl, fun c hc => ?_⟩
  rcases hc with rfl | rfl | rfl
  · exact ⟨rfl, ⟨rfl, rfl⟩, rfl, rfl⟩
  · exact ⟨rfl, ⟨rfl, rfl⟩, rfl, rfl⟩
  · exact ⟨rfl, ⟨rfl, rfl⟩, rfl, rfl⟩
theorem q2_start (kd ln : Nat → Nat) (I : Nat → Nat → Int32) (L : Nat → Nat → Int64) (D : Nat → Nat → UInt64) (R : Nat → Nat → Nat) : Iv (qe_w kd ln) (qe_I I, qe_L L, qe_D D, qe_R R) := ⟨qt_Inv kd ln I L D R, q2_WF kd ln⟩
/-- the whole walk -/
theorem whole_start {p : Program} {e : Env} {s : State} {m : MethodId} {below : List Frame} {meth : Method} {c : Code} (l : Launch) {b L : Nat} {xs : Nat → Int32} (hL : L ≤ 3072) (C0 : lw_At p s m meth c b L xs) : W p l e room_1 s m #[Value.ref b] below meth c s.heap [] 0 0 (lw_Z below #[Value.ref b] s) (entryFrame m ([Value.ref b] : List Value).toArray 4) :=
  qc_whole Iv q2_all q2_start l hL C0
