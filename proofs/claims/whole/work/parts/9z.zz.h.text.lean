/-! the text and the columns, as both have them -/
section
variable {I : qTI}
theorem qy_text (h : qi_tape I) : ∃ (b : Nat → Nat) (len : Nat), qt_B b len ∧ tpX b len I ∧ I 291 7 = nI len ∧ ∀ p, p < len → I 297 p = nI (b p) := by
  obtain ⟨h1, h2, h3⟩ := h
  obtain ⟨len, k1, k2, -⟩ := qi_k h2 (by decide)
  have hb : ∀ p, p < len → ∃ v, v < 256 ∧ I 266 p = nI v ∧ I 297 p = nI v := fun p hp => by
    obtain ⟨g1, g2⟩ := h3 p (by omega)
    obtain ⟨v, v1, v2, -⟩ := qi_k g2 (by decide)
    exact ⟨v, v1, v2, by rw [← g1]; exact v2⟩
  have hb2 : ∀ p, ∃ v, p < len → v < 256 ∧ I 266 p = nI v ∧ I 297 p = nI v := fun p => by
    by_cases hp : p < len
    · obtain ⟨v, hv⟩ := hb p hp
      exact ⟨v, fun _ => hv⟩
    · exact ⟨0, fun u => absurd u hp⟩
  obtain ⟨f, hf⟩ := Classical.skolem.mp hb2
  have e : ∀ p, p < len → (fun p => if p < len then f p else 256) p = f p := fun p hp => if_pos hp
  refine ⟨fun p => if p < len then f p else 256, len, ⟨by omega, fun p hp => ?_, fun p hp => if_neg (by omega)⟩, ⟨k2, fun p hp => ?_⟩, h1.symm.trans k2, fun p hp => ?_⟩
  · rw [e p hp]; exact (hf p hp).1
  · rw [e p hp]; exact (hf p hp).2.1
  · rw [e p hp]; exact (hf p hp).2.2
theorem qy_cols {sX sM : Nat → Int32} {aX aM : Nat → Int64} {dX dM : Nat → UInt64} (h : qi_cols (I 258) (I 292) (I 259) (I 293) sX sM aX aM dX dM) : ∃ ln : Nat → Nat, (∀ c, ln c ≤ 8) ∧ clX ln I ∧ ∀ cc, cc < 10 → ((I 292 cc = -1 ∧ ln cc = 8) ∨ ∃ i, i < 11 ∧ I 292 cc = nI i ∧ I 293 i = nI (ln cc) ∧ ln cc < 8) := by
  have hc : ∀ c, ∃ l, l ≤ 8 ∧ (c < 10 → ((I 258 c = -1 ∧ l = 8) ∨ ∃ i, i < 10 ∧ I 258 c = nI i ∧ I 259 i = nI l ∧ l < 8) ∧ ((I 292 c = -1 ∧ l = 8) ∨ ∃ i, i < 11 ∧ I 292 c = nI i ∧ I 293 i = nI l ∧ l < 8)) := fun c => by
    by_cases hc : c < 10
    · rcases h.1 c hc with ⟨z1, z2⟩ | ⟨i, j, z1, z2, z3, z4, z5, z6, -⟩
      · exact ⟨8, Nat.le_refl _, fun _ => ⟨Or.inl ⟨z1, rfl⟩, Or.inl ⟨z2, rfl⟩⟩⟩
      · obtain ⟨l, l1, l2, -⟩ := qi_k z6 (by decide)
        exact ⟨l, by omega, fun _ => ⟨Or.inr ⟨i, z3, z1, l2, l1⟩, Or.inr ⟨j, z4, z2, z5.symm.trans l2, l1⟩⟩⟩
    · exact ⟨8, Nat.le_refl _, fun u => absurd u hc⟩
  obtain ⟨ln, hl⟩ := Classical.skolem.mp hc
  exact ⟨ln, fun c => (hl c).1, fun c hc => ((hl c).2 hc).1, fun c hc => ((hl c).2 hc).2⟩
end
