/-! run, as a contract -/
theorem qr_run {w : qcW} {I : qTI} {L : qTL} {D : qTD} {R : qTR} (h : Inv w (I, L, D, R)) (a : Int32) : qc_pr Inv qmX11_run qmX12_run [.int a] w (I, L, D, R) qc_oki :=
  qv_mk (vl := .int) h (by decide) (by decide) qc_oki_of (pp_run h a (fun {r M'} e => (tX11_run (I' := M'.1) (L' := M'.2.1) (D' := M'.2.2.1) (R' := M'.2.2.2) h.1 h.2.1 e).1) (fun {I L D R r M'} hR e => (tX12_run (I' := M'.1) (L' := M'.2.1) (D' := M'.2.2.1) (R' := M'.2.2.2) h.1 hR e).1)) (fun e => tX11_run h.1 h.2.1 e) (fun hR e => tX12_run h.1 hR e)
