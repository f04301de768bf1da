/-! the law from its entry, over twenty pairs of calls and a good start -/
def qe_w (kd ln : Nat → Nat) : qcW := qzX12_init_w (qc_wn (qzX11_init_w (qc_wn (256, kd, ln) 9 0)) 10 0)
def qe_I (f : Nat → Nat → Int32) : Nat → Nat → Int32 := qzX12_init_I (qc_z (qzX11_init_I (qc_z f 256 0)) 291 0)
def qe_L (f : Nat → Nat → Int64) : Nat → Nat → Int64 := qzX12_init_L (qc_z (qzX11_init_L (qc_z f 256 0)) 291 0)
def qe_D (f : Nat → Nat → UInt64) : Nat → Nat → UInt64 := qzX12_init_D (qc_z (qzX11_init_D (qc_z f 256 0)) 291 0)
def qe_R (f : Nat → Nat → Nat) : Nat → Nat → Nat := qzX12_init_R (qc_z (qzX11_init_R (qc_z f 256 255)) 291 255)
set_option maxRecDepth 100000 in
set_option maxHeartbeats 4000000 in
theorem qc_lawbody (nm : String) (Inv : qcW → qcM → Prop) (hprs : qc_prs Inv) (h0 : ∀ (kd ln : Nat → Nat) (I : Nat → Nat → Int32) (L : Nat → Nat → Int64) (D : Nat → Nat → UInt64) (R : Nat → Nat → Nat), Inv (qe_w kd ln) (qe_I I, qe_L L, qe_D D, qe_R R)) (b N : Nat) (xs : Nat → Int32) (hN : N ≤ 3072) (kd ln : Nat → Nat) (I : Nat → Nat → Int32) (L : Nat → Nat → Int64) (D : Nat → Nat → UInt64) (R : Nat → Nat → Nat) :
    qc_X room_1 (qmL nm) (qc_QL b N xs) 0 0 (256, kd, ln) (0, [(0, .ref 254)], [], I, L, D, R) := by
  refine qc_new 9 (qc_at (qkL_law nm) 0 rfl) qn_13_7 (fun _ => ⟨rfl, rfl⟩) (Nat.le_of_ble_eq_true rfl) (Nat.le_of_ble_eq_true rfl) <| qc_dup (qc_at (qkL_law nm) 1 rfl) rfl <| ?_
  refine qc_cI (a0 := 256) (qc_at (qkL_law nm) 2 rfl) ql_13_9 qfX11_init rfl (sX11_init_at _ _ _ _ _ _) rfl rfl (Nat.le_of_ble_eq_true rfl) ⟨(Nat.le_of_ble_eq_true rfl), (Nat.le_of_ble_eq_true rfl)⟩ ⟨(Nat.le_of_ble_eq_true rfl), (Nat.le_of_ble_eq_true rfl)⟩ (fun r w1 M1 hz => ?_)
  obtain ⟨rfl, rfl, rfl⟩ := hz
  refine qc_astore_n (lv' := [(1, _), (0, _)]) (qc_at (qkL_law nm) 3 rfl) rfl rfl <| qc_new 10 (qc_at (qkL_law nm) 4 rfl) qn_13_10 (fun _ => ⟨rfl, rfl⟩) (Nat.le_of_ble_eq_true rfl) (Nat.le_of_ble_eq_true rfl) <| qc_dup (qc_at (qkL_law nm) 5 rfl) rfl <| ?_
  refine qc_cI (a0 := 291) (qc_at (qkL_law nm) 6 rfl) ql_13_12 qfX12_init rfl (sX12_init_at _ _ _ _ _ _) rfl rfl (Nat.le_of_ble_eq_true rfl) ⟨(Nat.le_of_ble_eq_true rfl), (Nat.le_of_ble_eq_true rfl)⟩ ⟨(Nat.le_of_ble_eq_true rfl), (Nat.le_of_ble_eq_true rfl)⟩ (fun r w1 M1 hz => ?_)
  obtain ⟨rfl, rfl, rfl⟩ := hz
  refine qc_astore_n (lv' := [(2, _), (1, _), (0, _)]) (qc_at (qkL_law nm) 7 rfl) rfl rfl <| qc_iconst (qc_at (qkL_law nm) 8 rfl) <| qc_istore_n (lv' := [(3, _), (2, _), (1, _), (0, _)]) (qc_at (qkL_law nm) 9 rfl) rfl rfl <| ?_
  refine qc_sub [3, 2, 1, 0] rfl ?_
  exact qc_widen (cu' := 82 + 8 * 0) (su' := 30688 + 1500 * 0) (Nat.le_of_ble_eq_true rfl) (Nat.le_of_ble_eq_true rfl) (qc_lawloop nm Inv hprs b N xs hN (N + 1) 0 0 _ _ rfl (Nat.zero_le _) (by omega) (h0 kd ln I L D R))
set_option maxHeartbeats 4000000 in
/-- the law's walk, over a good state Inv -/
theorem qc_whole (Inv : qcW → qcM → Prop) (hprs : qc_prs Inv) (h0 : ∀ (kd ln : Nat → Nat) (I : Nat → Nat → Int32) (L : Nat → Nat → Int64) (D : Nat → Nat → UInt64) (R : Nat → Nat → Nat), Inv (qe_w kd ln) (qe_I I, qe_L L, qe_D D, qe_R R))
    {p : Program} {e : Env} {s : State} {m : MethodId} {below : List Frame} {meth : Method} {c : Code} (l : Launch) {b L : Nat} {xs : Nat → Int32} (hL : L ≤ 3072) (C0 : lw_At p s m meth c b L xs) : W p l e room_1 s m #[Value.ref b] below meth c s.heap [] 0 0 (lw_Z below #[Value.ref b] s) (entryFrame m ([Value.ref b] : List Value).toArray 4) := by
  obtain ⟨hx, hb, hr, hml, hown, hts, hX, hbl, hlocks, hgv⟩ := id C0
  have hg : ∀ c ∈ qs_nl, c.before #[Value.ref b] s = true := flat_of_before _ hgv
  obtain ⟨g, hW, hgb, hgs⟩ := qs_world b hts hg ((fun _ _ => 0, fun _ _ => 0, fun _ _ => 0, fun _ _ => 0) : qcM) (fun _ => 0) (fun _ => 0)
  have q8 := qs_8
  simp only [Bool.and_eq_true, decide_eq_true_eq] at q8
  have hNW : qc_NW s := by
    refine ⟨fun w hw => ?_, va_AO.of (hts _ q8.1.2), va_AO.of (hts _ q8.2)⟩
    have h1 := hts w (List.mem_filter.mp hw).1
    obtain ⟨a, i, b', n, d, t, rfl⟩ := qc_nw_form hw
    exact va_Nw.of rfl h1
  have hl := lv_entry ([.ref b]) (n := 4) (Nat.le_of_ble_eq_true rfl)
  rw [lg_entry_eq]
  generalize (lg_sl ([.ref b]) ++ List.replicate (4 - (lg_sl ([.ref b])).length) Slot.unset).toArray = ls at hl ⊢
  have hl : lv_has ls 4 (([(0, Value.ref 254)] : List (Nat × Value)).map (qc_cp g.2.2.1)) := by
    show lv_has ls 4 [(0, Value.ref (g.2.2.1 254))]
    rw [hgb]
    exact hl
  have hK : qc_SK b L xs g #[Value.ref b] s := ⟨hX, hbl, hgb, hgs, rfl, p, m, c, trivial⟩
  have hw : ∀ w ∈ qc_wg, w.before #[Value.ref b] s = true := fun w hw => hts w (List.mem_filter.mp hw).1
  have h1 := qc_lawbody meth.name Inv hprs h0 b L xs hL (fun _ => 0) (fun _ => 0) (fun _ _ => 0) (fun _ _ => 0) (fun _ _ => 0) (fun _ _ => 0) p l e s m #[Value.ref b] below meth c g s.heap [] ls ⟨hx, hb, hr, hml, hown, hw, hlocks, rfl, hNW⟩ ⟨hW, by rw [hgs]; exact Nat.le_refl _⟩ va_S.rf hl
  intro T hT X
  obtain ⟨t, q1, q2⟩ := h1 T hT X
  exact ⟨t, q1, q2 hK⟩
