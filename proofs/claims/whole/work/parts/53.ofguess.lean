/-! sought, ofGuess -/
def s_sought (M : jM) (v r : Int) (M' : jM) : Prop := jif (v = 0 ∨ v = 1) (jif (M 18 0 9 = 0) (r = -3) (r = if v = 0 then M 18 0 10 else M 18 0 11)) (r = -2) ∧ M' = M
theorem c_sought (M : jM) (v : Int) : jCallP 0 24 [.inr (18, 0), .inl v] M (fun r M' => s_sought M v r M') := by
  have key : (v = 0 ∨ v = 1) → jWP 0 24 12 [some (.inr (18, 0)), some (.inl v)] [] M (fun r M' => s_sought M v r M') := fun h => fX9_sought_12 ⟨fun q => ⟨fun z => ⟨jif_t h (jif_f q (by rw [if_neg z])), rfl⟩, fun z => ⟨jif_t h (jif_f q (by rw [if_pos z])), rfl⟩⟩, fun q => ⟨jif_t h (jif_t q rfl), rfl⟩⟩
  exact jstart (by decide) rfl (fX9_sought_0 ⟨fun z => key (Or.inl z), fun z => ⟨fun z2 => key (Or.inr z2), fun z2 => ⟨jif_f (by omega) rfl, rfl⟩⟩⟩)
/-- what is asked of guess i, which is tie T of the kept tale -/
def s_ofGuess (M : jM) (R A : Int → Int) (i k r : Int) (M' : jM) : Prop :=
  jif (M 23 0 0 = 0) (r = -3) (jif (0 ≤ k ∧ k ≤ 4) (jif (0 ≤ i ∧ i < (gS M R A (M 12 0 1).toNat).1) (∀ T, 0 ≤ T → T < M 12 0 1 → (gS M R A (M 12 0 1).toNat).2 T = i →
    (k < 3 → r = (if ovr R A (gS M R A (M 12 0 1).toNat).2 (M 12 6 (3 * T + k)) < 0 then -6 else ovr R A (gS M R A (M 12 0 1).toNat).2 (M 12 6 (3 * T + k)))) ∧
    (k = 3 → jBl r (¬ fnd M 13 (M 12 5 T) (ovr R A (gS M R A (M 12 0 1).toNat).2 (M 12 6 (3 * T))) (ovr R A (gS M R A (M 12 0 1).toNat).2 (M 12 6 (3 * T + 1))) (ovr R A (gS M R A (M 12 0 1).toNat).2 (M 12 6 (3 * T + 2))) = -1)) ∧
    (k = 4 → jBl r (¬ M 19 4 (M 12 5 T) = -1 ∧ ¬ fnd M 13 (M 19 4 (M 12 5 T)) (ovr R A (gS M R A (M 12 0 1).toNat).2 (M 12 6 (3 * T))) (ovr R A (gS M R A (M 12 0 1).toNat).2 (M 12 6 (3 * T + 1))) (ovr R A (gS M R A (M 12 0 1).toNat).2 (M 12 6 (3 * T + 2))) = -1))) (r = -6)) (r = -2)) ∧ M' = M
theorem c_ofGuess {M : jM} {R A : Int → Int} (hI : jOk M) (hJ : ¬ M 23 0 0 = 0 → jGl M M 24 23 R A) (i k : Int) : jCallP 4 20 [.inr (18, 0), .inl i, .inl k] M (fun r M' => s_ofGuess M R A i k r M') := by
  obtain ⟨hL, hG, -, -⟩ := hI
  obtain ⟨⟨⟨-, hN12, hK12, -⟩, hE12, -⟩, -⟩ := hG 12 (by omega) (by omega)
  obtain ⟨⟨⟨-, hN13, -⟩, -⟩, -⟩ := hG 13 (by omega) (by omega)
  have t1 := hN12.2
  refine jstart (by decide) rfl (fX9_ofGuess_0 ⟨fun q => ?_, fun q => ⟨jif_t q rfl, rfl⟩⟩)
  obtain ⟨g1, g2, g3⟩ := hJ q
  obtain ⟨b1, b2, b3, b4, b5⟩ := gS_bd M R A (M 12 0 1).toNat
  rw [g2]
  refine ⟨fun z => ⟨jif_f q (jif_f (by omega) rfl), rfl⟩, fun z => ⟨fun z2 => ⟨fun z3 => ⟨jif_f q (jif_t ⟨z, z2⟩ (jif_f (by omega) rfl)), rfl⟩, fun z3 => ⟨fun z4 => ?_, fun z4 => ⟨jif_f q (jif_t ⟨z, z2⟩ (jif_f (by omega) rfl)), rfl⟩⟩⟩, fun z2 => ⟨jif_f q (jif_f (by omega) rfl), rfl⟩⟩⟩
  obtain ⟨T, T0, T1, eT⟩ := b4 i z3 z4
  have hT : M 24 5 i = T := by
    have := g3 T T0 (by omega) (by omega)
    rwa [eT] at this
  have one : ∀ T', (gS M R A (M 12 0 1).toNat).2 T' = i → T' = T := fun T' h => b5 T' T (by omega) (by omega)
  have fin : ∀ r, ((k < 3 → r = (if ovr R A (gS M R A (M 12 0 1).toNat).2 (M 12 6 (3 * T + k)) < 0 then -6 else ovr R A (gS M R A (M 12 0 1).toNat).2 (M 12 6 (3 * T + k)))) ∧
    (k = 3 → jBl r (¬ fnd M 13 (M 12 5 T) (ovr R A (gS M R A (M 12 0 1).toNat).2 (M 12 6 (3 * T))) (ovr R A (gS M R A (M 12 0 1).toNat).2 (M 12 6 (3 * T + 1))) (ovr R A (gS M R A (M 12 0 1).toNat).2 (M 12 6 (3 * T + 2))) = -1)) ∧
    (k = 4 → jBl r (¬ M 19 4 (M 12 5 T) = -1 ∧ ¬ fnd M 13 (M 19 4 (M 12 5 T)) (ovr R A (gS M R A (M 12 0 1).toNat).2 (M 12 6 (3 * T))) (ovr R A (gS M R A (M 12 0 1).toNat).2 (M 12 6 (3 * T + 1))) (ovr R A (gS M R A (M 12 0 1).toNat).2 (M 12 6 (3 * T + 2))) = -1))) → s_ofGuess M R A i k r M := fun r h => ⟨jif_f q (jif_t ⟨z, z2⟩ (jif_t ⟨z3, z4⟩ (fun T' _ _ e => by rw [one T' e]; exact h))), rfl⟩
  refine ⟨fun z5 => ⟨fun z6 => ?_, fun z6 => ?_⟩, fun z5 => ?_⟩
  · refine jcq (c_isAgainst_24 (C := M) (g := 13) hN12 hE12 hK12 hL rfl g1 hT T0 (by omega) (by omega) (by omega) hN13) (by decide) ?_
    rintro r M' ⟨bl, rfl⟩
    exact ⟨fun w => fin 0 ⟨fun x => by omega, fun x => absurd x z6, fun _ => Or.inr ⟨rfl, (jBl_eq bl).mp w⟩⟩, fun w => fin 1 ⟨fun x => by omega, fun x => absurd x z6, fun _ => Or.inl ⟨rfl, (jBl_ne bl).mp w⟩⟩⟩
  · refine jcq (c_isHeld_24 (C := M) (g := 13) hN12 hE12 hK12 g1 hT T0 (by omega) (by omega) (by omega) hN13) (by decide) ?_
    rintro r M' ⟨bl, rfl⟩
    exact ⟨fun w => fin 0 ⟨fun x => by omega, fun _ => Or.inr ⟨rfl, (jBl_eq bl).mp w⟩, fun x => by omega⟩, fun w => fin 1 ⟨fun x => by omega, fun _ => Or.inl ⟨rfl, (jBl_ne bl).mp w⟩, fun x => by omega⟩⟩
  · refine jcq (c_endOver_24 (C := M) (q := k) hN12 hE12 g1 hT T0 (by omega) (by omega) (by omega)) (by decide) ?_
    rintro r M' ⟨e, rfl⟩
    refine jcq (c_orNone M' r) (by decide) ?_
    rintro r2 M2 ⟨e2, rfl⟩
    exact fin r2 ⟨fun _ => by rw [e2, e], fun x => by omega, fun x => by omega⟩
