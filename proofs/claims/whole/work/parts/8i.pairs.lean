/-! the pairs as contracts -/
theorem qv_mk {ρ : Type} {vl : ρ → Value} {w : qcW} {fX fM : qTI → qTL → qTD → qTR → qcO ρ} {mX mM : qcI} {as : List Value} {ok : Value → Prop} {d d2 : Nat} {I : qTI} {L : qTL} {D : qTD} {R : qTR} (hI : Inv w (I, L, D, R)) (hd : d ≤ 1000) (hd2 : d2 ≤ 1000) (hok : ∀ r, ok (vl r)) (h : qv_pp w fX fM (I, L, D, R))
    (tX : ∀ {I' : qTI} {L' : qTL} {D' : qTD} {R' : qTR} {r : ρ}, fX I L D R = some (r, I', L', D', R') → qc_fm qcSX (I, L, D, R) (I', L', D', R') ∧ qc_V d 0 0 mX (.ref 256 :: as) w (I, L, D, R) (qc_eq (some (vl r)) w (I', L', D', R')))
    (tM : ∀ {I : qTI} {L : qTL} {D : qTD} {R : qTR} {I' : qTI} {L' : qTL} {D' : qTD} {R' : qTR} {r : ρ}, qc_FR R → fM I L D R = some (r, I', L', D', R') → qc_fm qcSM (I, L, D, R) (I', L', D', R') ∧ qc_V d2 0 0 mM (.ref 291 :: as) w (I, L, D, R) (qc_eq (some (vl r)) w (I', L', D', R'))) : qc_pr Inv mX mM as w (I, L, D, R) ok := by
  obtain ⟨r, I1, L1, D1, R1, I2, L2, D2, R2, e1, e2, e3⟩ := h
  obtain ⟨f1, v1⟩ := tX e1
  have hR1 : qc_FR R1 := f1.1 hI.2.1
  obtain ⟨f2, v2⟩ := tM hR1 e2
  have hR2 : qc_FR R2 := f2.1 hR1
  refine ⟨d, 0, 0, d2, hd, by decide, by decide, hd2, qc_V.mono v1 (fun r' w1 M1 hz => ?_)⟩
  obtain ⟨rfl, rfl, rfl⟩ := hz
  refine ⟨vl r, rfl, hok r, hI.1, qc_V.mono v2 (fun r'' w2 M2 hz => ?_)⟩
  obtain ⟨rfl, rfl, rfl⟩ := hz
  exact ⟨rfl, e3 hR2⟩
theorem qc_oki_of (r : Int32) : qc_oki (.int r) := ⟨r, rfl⟩
theorem qc_okl_of (r : Int64) : qc_okl (.long r) := ⟨r, rfl⟩
theorem qr_objects {w : qcW} {I : qTI} {L : qTL} {D : qTD} {R : qTR} (h : Inv w (I, L, D, R)) (a : Int32) : qc_pr Inv qmX11_objects qmX12_objects [.int a] w (I, L, D, R) qc_oki :=
  qv_mk (vl := .int) h (by decide) (by decide) qc_oki_of (pp_objects h a) (fun e => tX11_objects h.1 h.2.1 e) (fun hR e => tX12_objects h.1 hR e)
theorem qr_column {w : qcW} {I : qTI} {L : qTL} {D : qTD} {R : qTR} (h : Inv w (I, L, D, R)) (a : Int32) (b : Int32) (c : Int32) : qc_pr Inv qmX11_column qmX12_column [.int a, .int b, .int c] w (I, L, D, R) qc_oki :=
  qv_mk (vl := .int) h (by decide) (by decide) qc_oki_of (pp_column h a b c) (fun e => tX11_column h.1 h.2.1 e) (fun hR e => tX12_column h.1 hR e)
theorem qr_share {w : qcW} {I : qTI} {L : qTL} {D : qTD} {R : qTR} (h : Inv w (I, L, D, R)) (a : Int32) (b : Int32) : qc_pr Inv qmX11_share qmX12_share [.int a, .int b] w (I, L, D, R) qc_oki :=
  qv_mk (vl := .int) h (by decide) (by decide) qc_oki_of (pp_share h a b) (fun e => tX11_share h.1 h.2.1 e) (fun hR e => tX12_share h.1 hR e)
theorem qr_drop {w : qcW} {I : qTI} {L : qTL} {D : qTD} {R : qTR} (h : Inv w (I, L, D, R)) (a : Int32) : qc_pr Inv qmX11_drop qmX12_drop [.int a] w (I, L, D, R) qc_oki :=
  qv_mk (vl := .int) h (by decide) (by decide) qc_oki_of (pp_drop h a) (fun e => tX11_drop h.1 h.2.1 e) (fun hR e => tX12_drop h.1 hR e)
theorem qr_put {w : qcW} {I : qTI} {L : qTL} {D : qTD} {R : qTR} (h : Inv w (I, L, D, R)) (a : Int32) (b : Int32) (c : Int64) : qc_pr Inv qmX11_put qmX12_put [.int a, .int b, .long c] w (I, L, D, R) qc_oki :=
  qv_mk (vl := .int) h (by decide) (by decide) qc_oki_of (pp_put h a b c) (fun e => tX11_put h.1 h.2.1 e) (fun hR e => tX12_put h.1 hR e)
theorem qr_cell {w : qcW} {I : qTI} {L : qTL} {D : qTD} {R : qTR} (h : Inv w (I, L, D, R)) (a : Int32) (b : Int32) : qc_pr Inv qmX11_cell qmX12_cell [.int a, .int b] w (I, L, D, R) qc_okl :=
  qv_mk (vl := .long) h (by decide) (by decide) qc_okl_of (pp_cell h a b) (fun e => tX11_cell h.1 h.2.1 e) (fun hR e => tX12_cell h.1 hR e)
theorem qr_about {w : qcW} {I : qTI} {L : qTL} {D : qTD} {R : qTR} (h : Inv w (I, L, D, R)) (a : Int32) (b : Int32) : qc_pr Inv qmX11_about qmX12_about [.int a, .int b] w (I, L, D, R) qc_oki :=
  qv_mk (vl := .int) h (by decide) (by decide) qc_oki_of (pp_about h a b) (fun e => tX11_about h.1 h.2.1 e) (fun hR e => tX12_about h.1 hR e)
theorem qr_feed {w : qcW} {I : qTI} {L : qTL} {D : qTD} {R : qTR} (h : Inv w (I, L, D, R)) (a : Int32) (b : Int32) (c : Int32) (d : Int32) (e : Int32) : qc_pr Inv qmX11_feed qmX12_feed [.int a, .int b, .int c, .int d, .int e] w (I, L, D, R) qc_oki :=
  qv_mk (vl := .int) h (by decide) (by decide) qc_oki_of (pp_feed h a b c d e) (fun e => tX11_feed h.1 h.2.1 e) (fun hR e => tX12_feed h.1 hR e)
theorem qr_end {w : qcW} {I : qTI} {L : qTL} {D : qTD} {R : qTR} (h : Inv w (I, L, D, R)) (a : Int32) : qc_pr Inv qmX11_end qmX12_end [.int a] w (I, L, D, R) qc_oki :=
  qv_mk (vl := .int) h (by decide) (by decide) qc_oki_of (pp_end h a) (fun e => tX11_end h.1 h.2.1 e) (fun hR e => tX12_end h.1 hR e)
theorem qr_fault {w : qcW} {I : qTI} {L : qTL} {D : qTD} {R : qTR} (h : Inv w (I, L, D, R)) : qc_pr Inv qmX11_fault qmX12_fault [] w (I, L, D, R) qc_oki :=
  qv_mk (vl := .int) h (by decide) (by decide) qc_oki_of (pp_fault h) (fun e => tX11_fault h.1 h.2.1 e) (fun hR e => tX12_fault h.1 hR e)
theorem qr_acts {w : qcW} {I : qTI} {L : qTL} {D : qTD} {R : qTR} (h : Inv w (I, L, D, R)) (a : Int32) (b : Int32) : qc_pr Inv qmX11_acts qmX12_acts [.int a, .int b] w (I, L, D, R) qc_oki :=
  qv_mk (vl := .int) h (by decide) (by decide) qc_oki_of (pp_acts h a b) (fun e => tX11_acts h.1 h.2.1 e) (fun hR e => tX12_acts h.1 hR e)
theorem qr_act {w : qcW} {I : qTI} {L : qTL} {D : qTD} {R : qTR} (h : Inv w (I, L, D, R)) (a : Int32) (b : Int32) (c : Int32) (d : Int32) : qc_pr Inv qmX11_act qmX12_act [.int a, .int b, .int c, .int d] w (I, L, D, R) qc_oki :=
  qv_mk (vl := .int) h (by decide) (by decide) qc_oki_of (pp_act h a b c d) (fun e => tX11_act h.1 h.2.1 e) (fun hR e => tX12_act h.1 hR e)
theorem qr_told {w : qcW} {I : qTI} {L : qTL} {D : qTD} {R : qTR} (h : Inv w (I, L, D, R)) (a : Int32) : qc_pr Inv qmX11_told qmX12_told [.int a] w (I, L, D, R) qc_oki :=
  qv_mk (vl := .int) h (by decide) (by decide) qc_oki_of (pp_told h a) (fun e => tX11_told h.1 h.2.1 e) (fun hR e => tX12_told h.1 hR e)
theorem qr_hit {w : qcW} {I : qTI} {L : qTL} {D : qTD} {R : qTR} (h : Inv w (I, L, D, R)) (a : Int32) : qc_pr Inv qmX11_hit qmX12_hit_ [.int a] w (I, L, D, R) qc_oki :=
  qv_mk (vl := .int) h (by decide) (by decide) qc_oki_of (pp_hit h a) (fun e => tX11_hit h.1 h.2.1 e) (fun hR e => tX12_hit_ h.1 hR e)
theorem qr_score {w : qcW} {I : qTI} {L : qTL} {D : qTD} {R : qTR} (h : Inv w (I, L, D, R)) (a : Int32) : qc_pr Inv qmX11_score qmX12_score [.int a] w (I, L, D, R) qc_okl :=
  qv_mk (vl := .long) h (by decide) (by decide) qc_okl_of (pp_score h a) (fun e => tX11_score h.1 h.2.1 e) (fun hR e => tX12_score h.1 hR e)
theorem qr_value {w : qcW} {I : qTI} {L : qTL} {D : qTD} {R : qTR} (h : Inv w (I, L, D, R)) (a : Int32) : qc_pr Inv qmX11_value qmX12_value [.int a] w (I, L, D, R) qc_okl :=
  qv_mk (vl := .long) h (by decide) (by decide) qc_okl_of (pp_value h a) (fun e => tX11_value h.1 h.2.1 e) (fun hR e => tX12_value h.1 hR e)
theorem qr_count {w : qcW} {I : qTI} {L : qTL} {D : qTD} {R : qTR} (h : Inv w (I, L, D, R)) (a : Int32) : qc_pr Inv qmX11_count qmX12_count [.int a] w (I, L, D, R) qc_oki :=
  qv_mk (vl := .int) h (by decide) (by decide) qc_oki_of (pp_count h a) (fun e => tX11_count h.1 h.2.1 e) (fun hR e => tX12_count h.1 hR e)
theorem qr_clear {w : qcW} {I : qTI} {L : qTL} {D : qTD} {R : qTR} (h : Inv w (I, L, D, R)) : qc_pr Inv qmX11_clear qmX12_clear [] w (I, L, D, R) qc_oki :=
  qv_mk (vl := .int) h (by decide) (by decide) qc_oki_of (pp_clear h) (fun e => tX11_clear h.1 h.2.1 e) (fun hR e => tX12_clear h.1 hR e)
