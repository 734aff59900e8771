/-! like -/
theorem agr.symm {C C' : jM} {a a' : Int} (h : agr C C' a a') : agr C' C a' a := by
  obtain ⟨h0, h1, h4, h5, h6⟩ := h
  unfold agr
  rw [h0, h1]
  exact ⟨rfl, rfl, fun x x0 x1 => (h4 x x0 x1).symm, fun i i0 i1 => ⟨(h5 i i0 i1).1.symm, (h5 i i0 i1).2.1.symm, (h5 i i0 i1).2.2.symm⟩, fun i q i0 i1 q0 q1 => (h6 i q i0 i1 q0 q1).symm⟩
theorem agr_became {M M' : jM} {g h : Int} (hN : jNB M h) (hB : jBecame M M' g h) : agr M M' h g := by
  obtain ⟨b0, b4, b5, b6, b7, b8, -⟩ := hB
  have n1 := hN.1
  have n2 := hN.2
  exact ⟨b0 0 (by omega) (by omega), b0 1 (by omega) (by omega), fun x x0 x1 => b4 x x0 (by omega), fun i i0 i1 => ⟨b5 i i0 (by omega), b7 i i0 (by omega), b8 i i0 (by omega)⟩, fun i q i0 i1 q0 q1 => b6 _ (by omega) (by omega)⟩
theorem good_agr {C C' : jM} {a a' : Int} (h19 : C' 19 = C 19) (h : agr C C' a a') (hg : 0 ≤ a' ∧ a' < 18) (hG : jGood C a) : jGood C' a' := by
  obtain ⟨h0, h1, h4, h5, h6⟩ := h
  obtain ⟨⟨-, ⟨hN1, hN2⟩, hK, hO⟩, hEn, hH, hT, hC⟩ := hG
  have e60 : ∀ i, 0 ≤ i → i < C a 0 1 → C' a' 6 (3 * i) = C a 6 (3 * i) := fun i i0 i1 => by have := h6 i 0 i0 i1 (by omega) (by omega); rwa [Int.add_zero] at this
  refine ⟨⟨hg, ⟨by rw [h0]; exact hN1, by rw [h1]; exact hN2⟩, fun i i0 i1 => ?_, fun i i0 i1 => ?_⟩, fun i q i0 i1 q0 q1 => ?_, fun i i0 i1 => ?_, fun i i0 i1 => ?_, fun i q i0 i1 q0 q1 => ?_⟩
  · rw [h1] at i1; rw [(h5 i i0 i1).1]; exact hK i i0 i1
  · rw [h1] at i1; rw [(h5 i i0 i1).2.1]; exact hO i i0 i1
  · rw [h1] at i1; rw [h6 i q i0 i1 q0 q1, h0]; exact hEn i q i0 i1 q0 q1
  · rw [h1] at i1; rw [(h5 i i0 i1).2.2]; exact hH i i0 i1
  · rw [h1] at i1
    have hh : ∀ q, 0 ≤ q → q < 3 → hE C' a' (C a 6 (3 * i + q)) = hE C a (C a 6 (3 * i + q)) := fun q q0 q1 => by
      have := hEn i q i0 i1 q0 q1
      unfold hE
      by_cases y : 10 ≤ C a 6 (3 * i + q)
      · rw [if_pos y, if_pos y, (h5 _ (by omega) (by omega)).2.2]
      · rw [if_neg y, if_neg y]
    have k0 := hh 0 (by omega) (by omega)
    rw [Int.add_zero] at k0
    rw [(h5 i i0 i1).2.2, e60 i i0 i1, h6 i 1 i0 i1 (by omega) (by omega), h6 i 2 i0 i1 (by omega) (by omega), k0, hh 1 (by omega) (by omega), hh 2 (by omega) (by omega)]
    exact hT i i0 i1
  · rw [h1] at i1; rw [h6 i q i0 i1 q0 q1, h19, (h5 i i0 i1).1]; exact hC i q i0 i1 q0 q1
theorem sr_agr {C C' : jM} {a a' : Int} (h : agr C C' a a') (hS : jSr C a) : jSr C' a' := fun x x0 x1 => by
  rw [h.1] at x1
  rw [h.2.2.1 x x0 x1]
  exact hS x x0 x1
theorem c_Ktake {M : jM} {a b l tm : Int} (ha : 0 ≤ a ∧ a < 12) (hb : 0 ≤ b ∧ b < 12) (hNa : jNB M a) (hNb : jNB M b) (ht : tm = 0 ∨ tm = 1) : jCallP 1 131 [.inr (23, 0), .inr (a, 0), .inr (b, 0), .inl l, .inl tm] M (fun _ M' => agr M M' a 12 ∧ agr M M' b 13 ∧ M' 23 0 0 = 1 ∧ M' 23 0 1 = l ∧ M' 23 0 2 = tm ∧ ∀ x y, ¬ (x = 12 ∨ x = 13 ∨ (x = 23 ∧ y = 0)) → M' x y = M x y) := by
  refine jstart (by decide) rfl (fX2_take_0 ⟨Or.inr rfl, ht, by omega, ?_⟩)
  generalize hM0 : jup (jup (jup M 23 0 0 1) 23 0 1 l) 23 0 2 tm = M0
  have f0 : ∀ x y, ¬ (x = 23 ∧ y = 0) → M0 x y = M x y := fun x y h => by rw [← hM0, jup_set, jset_ne h, jup_set, jset_ne h, jup_set, jset_ne h]
  have g0 : M0 23 0 0 = 1 := by rw [← hM0, jup_ne (by simp), jup_ne (by simp), jup_eq]
  have g1 : M0 23 0 1 = l := by rw [← hM0, jup_ne (by simp), jup_eq]
  have g2 : M0 23 0 2 = tm := by rw [← hM0, jup_eq]
  have eA : M0 a = M a := by funext y; exact f0 a y (by omega)
  have eB : M0 b = M b := by funext y; exact f0 b y (by omega)
  refine jcq (c_become (M := M0) (g := 12) (h := a) (by omega) (by omega)) (by decide) ?_
  rintro r1 M1 h1
  have f1 : ∀ x y, ¬ x = 12 → M1 x y = M0 x y := fun x y h => h1.2.2.2.2.2.2 x y (by omega)
  refine ⟨by omega, jcq (c_become (M := M1) (g := 13) (h := b) (by omega) (by omega)) (by decide) ?_⟩
  rintro r2 M2 h2
  have f2 : ∀ x y, ¬ x = 13 → M2 x y = M1 x y := fun x y h => h2.2.2.2.2.2.2 x y (by omega)
  have e12 : M2 12 = M1 12 := by funext y; exact f2 12 y (by omega)
  have eB1 : M1 b = M b := by funext y; rw [f1 b y (by omega), eB]
  have a1 := agr_became (M := M0) (by unfold jNB; rw [eA]; exact hNa) h1
  have a2 := agr_became (M := M1) (by unfold jNB; rw [eB1]; exact hNb) h2
  refine ⟨?_, ?_, by rw [f2 _ _ (by simp), f1 _ _ (by simp), g0], by rw [f2 _ _ (by simp), f1 _ _ (by simp), g1], by rw [f2 _ _ (by simp), f1 _ _ (by simp), g2], fun x y h => by rw [f2 x y (by omega), f1 x y (by omega), f0 x y (by omega)]⟩
  · unfold agr at a1 ⊢
    rw [e12, ← eA]
    exact a1
  · unfold agr at a2 ⊢
    rw [← eB1]
    exact a2
