/-! takePairing, like -/
theorem c_takePairing {C M : jM} {p A : Int → Int} (hNa : jNB C 12) (hE : jEs C 12) (h12 : M 12 = C 12) (hp : ∀ x, 0 ≤ x → x < C 12 0 0 → M 20 6 x = p x ∧ -1 ≤ p x ∧ p x < 6) (hA : ∀ i, 0 ≤ i → i < C 12 0 1 → M 20 7 i = A i ∧ -1 ≤ A i ∧ A i < 14) : jCallP 3 132 [.inr (23, 0), .inr (20, 6), .inr (20, 7)] M (fun _ M' => jGl C M' 24 23 p A ∧ ∀ x y, ¬ ((x = 23 ∧ (y = 6 ∨ y = 7)) ∨ (x = 24 ∧ (y = 0 ∨ y = 5 ∨ y = 6))) → M' x y = M x y) := by
  have b1 := hNa.1
  have t1 := hNa.2
  refine jstart (by decide) rfl (fX2_takePairing_0 ?_)
  rw [show jal 20 6 = 6 from rfl, show jal 20 7 = 14 from rfl, show jal 23 6 = 6 from rfl, show jal 23 7 = 14 from rfl]
  refine ⟨by omega, fun z => by exfalso; omega, fun _ => ⟨by omega, fun _ => ⟨by omega, by omega, ?_⟩, fun z => by exfalso; omega⟩⟩
  generalize hM1 : jcp M 20 6 0 23 6 0 6 = M1
  have f1 : ∀ x y, ¬ (x = 23 ∧ y = 6) → M1 x y = M x y := fun x y h => by rw [← hM1, jcp_ne h]
  generalize hM2 : jcp M1 20 7 0 23 7 0 14 = M2
  have f2 : ∀ x y, ¬ (x = 23 ∧ y = 7) → M2 x y = M1 x y := fun x y h => by rw [← hM2, jcp_ne h]
  refine jcq (c_gather_24 (C := C) (p := p) (A := A) hNa hE ⟨by funext y; rw [f2 12 y (by simp), f1 12 y (by simp), h12], fun x x0 x1 => ?_, fun i i0 i1 => ?_, fun i i0 i1 => by omega⟩) (by decide) ?_
  · rw [f2 23 6 (by simp), ← hM1, jcp_eq x0 (by omega)]
    exact hp x x0 x1
  · rw [← hM2, jcp_eq i0 (by omega), f1 20 7 (by simp)]
    exact hA i i0 i1
  · rintro r M3 ⟨g, f3⟩
    exact ⟨g, fun x y h => by rw [f3 x y (by omega), f2 x y (by omega), f1 x y (by omega)]⟩
def s_like (M : jM) (a b l r : Int) (M' : jM) : Prop :=
  jif (isT a ∧ isT b) (jif (0 ≤ l ∧ l < 3) (∃ R, best M a b l (M 18 0 8) 0 R ∧ r = wth M a b l 0 (M 18 0 8) R ∧ agr M M' a 12 ∧ agr M M' b 13 ∧ M' 23 0 0 = 1 ∧ M' 23 0 1 = l ∧ M' 23 0 2 = M 18 0 8 ∧ jGl M' M' 24 23 R (ans M a b l 0 (M 18 0 8) R) ∧ (∀ x y, ¬ (x = 12 ∨ x = 13 ∨ (20 ≤ x ∧ x ≤ 24)) → M' x y = M x y) ∧ (∀ c, 0 ≤ c → c < 100 → M' 21 7 c = 0) ∧ M' 22 0 11 = 0) (r = -2 ∧ M' = M)) (r = -1 ∧ M' = M)
theorem c_like {M : jM} (hI : jOk M) (ht : M 18 0 8 = 0 ∨ M 18 0 8 = 1) (a b l : Int) : jCallP 12 13 [.inr (18, 0), .inl a, .inl b, .inl l] M (fun r M' => s_like M a b l r M') := by
  obtain ⟨hL, hG, hz, h11⟩ := hI
  refine jstart (by decide) rfl (fX9_like_0 ?_)
  refine jc (c_refusedLikeness M a b l) (by decide) ⟨fun q => ?_, fun q => ?_⟩
  rotate_left
  · by_cases h1 : isT a ∧ isT b
    · refine jif_t h1 ?_
      by_cases h2 : 0 ≤ l ∧ l < 3
      · exact absurd (jite_3.mpr ⟨h1, h2⟩) q
      · exact jif_f h2 ⟨by rw [if_pos (show (0 ≤ a ∧ a < 12) ∧ (0 ≤ b ∧ b < 12) from h1), if_neg h2], rfl⟩
    · exact jif_f h1 ⟨by rw [if_neg (show ¬ ((0 ≤ a ∧ a < 12) ∧ (0 ≤ b ∧ b < 12)) from h1)], rfl⟩
  obtain ⟨⟨ha, hb⟩, hl⟩ := jite_3.mp q
  obtain ⟨hGa, hSa⟩ := hG a ha.1 (by omega)
  obtain ⟨hGb, -⟩ := hG b hb.1 (by omega)
  refine ⟨ha, hb, jcq (c_Ktake ha hb hGa.1.2.1 hGb.1.2.1 ht) (by decide) ?_⟩
  rintro r1 M1 ⟨ga, gb, k0, k1, k2, f1⟩
  have e19 : M1 19 = M 19 := by funext y; exact f1 19 y (by simp)
  have hL1 : jLV M1 := by unfold jLV at hL ⊢; rw [e19]; exact hL
  have hG12 := good_agr e19 ga (by omega) hGa
  have hG13 := good_agr e19 gb (by omega) hGb
  rw [f1 18 0 (by simp)]
  refine jcq (c_likeness (C := M1) (tm := M 18 0 8) hL1 hG12 hG13 (sr_agr ga hSa) hl rfl rfl rfl (fun c c0 c1 => by rw [f1 21 7 (by simp)]; exact hz c c0 c1) (by rw [f1 22 0 (by simp)]; exact h11)) (by decide) ?_
  rintro r2 M2 ⟨R, hK, e2, hP, hA⟩
  have hB := best_agr e19.symm ga.symm gb.symm hG12.1.2.1.2.1 hG13.1.2.1.2.1 (isL_best hL1 hG12 hG13 hK.1)
  obtain ⟨hI1, hS2, -, -, -, g11, -, f2⟩ := hK
  have na := hGa.1.2.1.2.1
  have nb := hGb.1.2.1.2.1
  have ew := wth_agr (lv := l) (wg := 0) (tm := M 18 0 8) e19 ga gb na nb hB.1
  have ea := ans_agr (lv := l) (wg := 0) (tm := M 18 0 8) (p := R) e19 ga gb na nb
  have e12 : M2 12 = M1 12 := by funext y; exact f2 12 y (by simp)
  have e13 : M2 13 = M1 13 := by funext y; exact f2 13 y (by simp)
  have n13 := hG13.1.2.1
  refine jcq (c_takePairing (C := M1) (p := R) (A := ans M1 12 13 l 0 (M 18 0 8) R) hG12.1.2.1 hG12.2.1 e12 (fun x x0 x1 => ⟨hP x x0 x1, by have := n13.1; rcases hI1.1.1 x with e | e <;> omega⟩) (fun i i0 i1 => ⟨hA i i0 i1, by have := ansF_bd M1 12 13 l 0 (M 18 0 8) R n13.2.1 (M1 12 0 1).toNat i; have := n13.2; unfold ans; omega⟩)) (by decide) ?_
  rintro r3 M3 ⟨g, f3⟩
  have w12 : M3 12 = M1 12 := by funext y; rw [f3 12 y (by simp), e12]
  have w13 : M3 13 = M1 13 := by funext y; rw [f3 13 y (by simp), e13]
  refine jif_t ⟨ha, hb⟩ (jif_t hl ⟨R, hB, by rw [e2, ew], by unfold agr at ga ⊢; rw [w12]; exact ga, by unfold agr at gb ⊢; rw [w13]; exact gb, by rw [f3 23 0 (by simp), f2 23 0 (by simp), k0], by rw [f3 23 0 (by simp), f2 23 0 (by simp), k1], by rw [f3 23 0 (by simp), f2 23 0 (by simp), k2], ?_, fun x y h => by rw [f3 x y (by omega), f2 x y (by omega), f1 x y (by omega)], fun c c0 c1 => by rw [f3 21 7 (by simp)]; exact hS2.2.2 c c0 c1, by rw [f3 22 0 (by simp)]; exact g11⟩)
  rw [← ea]
  have eG : ∀ n, gS M3 R (ans M1 12 13 l 0 (M 18 0 8) R) n = gS M1 R (ans M1 12 13 l 0 (M 18 0 8) R) n := by
    intro n
    induction n with
    | zero => rfl
    | succ n ih =>
      have e : ∀ D : jM, gS D R (ans M1 12 13 l 0 (M 18 0 8) R) (n + 1) = @ite _ (ans M1 12 13 l 0 (M 18 0 8) R n = -1 ∧ isG D R (ans M1 12 13 l 0 (M 18 0 8) R) (gS D R (ans M1 12 13 l 0 (M 18 0 8) R) n).2 n) (Classical.propDecidable _) ((gS D R (ans M1 12 13 l 0 (M 18 0 8) R) n).1 + 1, jfu (gS D R (ans M1 12 13 l 0 (M 18 0 8) R) n).2 n (gS D R (ans M1 12 13 l 0 (M 18 0 8) R) n).1) (gS D R (ans M1 12 13 l 0 (M 18 0 8) R) n) := fun D => rfl
      rw [e, e, ih]
      unfold isG
      rw [w12]
  unfold jGl jGs at g ⊢
  rw [w12, eG]
  exact ⟨⟨rfl, g.1.2⟩, g.2⟩
