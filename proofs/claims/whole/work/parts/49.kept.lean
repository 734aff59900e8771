/-! partner, answer, guess -/
def s_partner (M : jM) (k r : Int) (M' : jM) : Prop := jif (M 23 0 0 = 0) (r = -3) (jif (0 ≤ k ∧ k < M 12 0 0) (r = (if M 23 6 k < 0 then -6 else M 23 6 k)) (r = -1)) ∧ M' = M
theorem c_partner {M : jM} (hN : jNB M 12) (k : Int) : jCallP 1 14 [.inr (18, 0), .inl k] M (fun r M' => s_partner M k r M') := by
  have b1 := hN.1
  refine jstart (by decide) rfl (fX9_partner_0 ⟨fun q => ⟨fun z => ⟨jif_f q (jif_f (by omega) rfl), rfl⟩, fun z => ⟨by omega, fun z2 => ⟨⟨z, by rw [show jal 23 6 = 6 from rfl]; omega⟩, ?_⟩, fun z2 => ⟨jif_f q (jif_f (by omega) rfl), rfl⟩⟩⟩, fun q => ⟨jif_t q rfl, rfl⟩⟩)
  refine jcq (c_orNone M (M 23 6 k)) (by decide) ?_
  rintro r M' ⟨e, rfl⟩
  exact ⟨jif_f q (jif_t ⟨z, z2⟩ e), rfl⟩
def s_answer (M : jM) (k r : Int) (M' : jM) : Prop := jif (M 23 0 0 = 0) (r = -3) (jif (0 ≤ k ∧ k < M 12 0 1) (r = (if M 23 7 k < 0 then -6 else M 23 7 k)) (r = -1)) ∧ M' = M
theorem c_answer {M : jM} (hN : jNB M 12) (k : Int) : jCallP 1 15 [.inr (18, 0), .inl k] M (fun r M' => s_answer M k r M') := by
  have b1 := hN.2
  refine jstart (by decide) rfl (fX9_answer_0 ⟨fun q => ⟨fun z => ⟨jif_f q (jif_f (by omega) rfl), rfl⟩, fun z => ⟨by omega, fun z2 => ⟨⟨z, by rw [show jal 23 7 = 14 from rfl]; omega⟩, ?_⟩, fun z2 => ⟨jif_f q (jif_f (by omega) rfl), rfl⟩⟩⟩, fun q => ⟨jif_t q rfl, rfl⟩⟩)
  refine jcq (c_orNone M (M 23 7 k)) (by decide) ?_
  rintro r M' ⟨e, rfl⟩
  exact ⟨jif_f q (jif_t ⟨z, z2⟩ e), rfl⟩
def s_guess (M : jM) (i r : Int) (M' : jM) : Prop := jif (M 23 0 0 = 0) (r = -3) (jif (i = -1) (r = M 24 0 3) (jif (0 ≤ i ∧ i < M 24 0 3) (r = M 24 5 i) (r = -6))) ∧ M' = M
theorem c_guess {M : jM} (h14 : M 24 0 3 ≤ 14) (i : Int) : jCallP 0 19 [.inr (18, 0), .inl i] M (fun r M' => s_guess M i r M') := by
  refine jstart (by decide) rfl (fX9_guess_0 ⟨fun q => ⟨fun z => ⟨fun z2 => ⟨jif_f q (jif_f z (jif_f (by omega) rfl)), rfl⟩, fun z2 => ⟨fun z3 => ⟨⟨z2, by rw [show jal 24 5 = 14 from rfl]; omega⟩, jif_f q (jif_f z (jif_t ⟨z2, z3⟩ rfl)), rfl⟩, fun z3 => ⟨jif_f q (jif_f z (jif_f (by omega) rfl)), rfl⟩⟩⟩, fun z => ⟨jif_f q (jif_t z rfl), rfl⟩⟩, fun q => ⟨jif_t q rfl, rfl⟩⟩)
