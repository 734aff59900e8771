/-! worth, likes, same, leftOut -/
theorem jRdy.fx {C M M' : jM} {a b lv tm wg : Int} (ha : 0 ≤ a ∧ a < 18) (hb : 0 ≤ b ∧ b < 18) (hR : jRdy C M a b lv tm wg) (h : ∀ x y, ¬ (x = 20 ∧ (y = 6 ∨ y = 7 ∨ y = 8 ∨ y = 14)) → ¬ x = 22 → M' x y = M x y) : jRdy C M' a b lv tm wg := by
  obtain ⟨r1, r2, r3, hT, hC, hH, h19, hMa, hMb⟩ := hR
  refine ⟨by rw [h 20 0 (by simp) (by simp), r1], by rw [h 20 0 (by simp) (by simp), r2], by rw [h 20 0 (by simp) (by simp), r3], ?_, fun i i0 i1 => ?_, fun q e q0 q1 e0 e1 => by rw [h 20 13 (by simp) (by simp)]; exact hH q e q0 q1 e0 e1, by funext y; rw [h _ _ (by simp) (by simp), h19], by funext y; rw [h _ _ (by omega) (by omega), hMa], by funext y; rw [h _ _ (by omega) (by omega), hMb]⟩
  · unfold jTm at hT ⊢
    rw [h 21 0 (by simp) (by simp), h 21 4 (by simp) (by simp), h 21 5 (by simp) (by simp)]
    exact hT
  · have := hC i i0 i1
    unfold jCmp at this ⊢
    rw [h 20 9 (by simp) (by simp), h 20 10 (by simp) (by simp), h 20 11 (by simp) (by simp), h 20 12 (by simp) (by simp)]
    exact this
/-- what stands between calls -/
def jOk (M : jM) : Prop := jLV M ∧ (∀ g, 0 ≤ g → g < 14 → jGood M g ∧ jSr M g) ∧ (∀ c, 0 ≤ c → c < 100 → M 21 7 c = 0) ∧ M 22 0 11 = 0
def jKp (M M' : jM) : Prop := (∀ x y, ¬ (x = 20 ∨ x = 21 ∨ x = 22) → M' x y = M x y) ∧ (∀ c, 0 ≤ c → c < 100 → M' 21 7 c = 0) ∧ M' 22 0 11 = 0
theorem jite_3 {p q : Prop} [Decidable p] [Decidable q] : ((if p then (if q then (0 : Int) else -2) else -1) = 0 ↔ (p ∧ q)) := by
  by_cases hp : p
  · by_cases hq : q
    · simp [hp, hq]
    · simp [hp, hq]
  · simp [hp]
def s_worth (M : jM) (a b l d r : Int) (M' : jM) : Prop :=
  jif (isT a ∧ isT b) (jif (0 ≤ l ∧ l < 3) (((∀ q, vld M a b q → num q (M a 0 0).toNat = d → r = wth M a b l 0 (M 18 0 8) q) ∧ ((¬ ∃ q, vld M a b q ∧ num q (M a 0 0).toNat = d) → r = -2)) ∧ jKp M M') (r = -2 ∧ M' = M)) (r = -1 ∧ M' = M)
theorem c_worth {M : jM} (hI : jOk M) (a b l d : Int) (hd : -2147483648 ≤ d ∧ d ≤ 2147483647) : jCallP 4 17 [.inr (18, 0), .inl a, .inl b, .inl l, .inl d] M (fun r M' => s_worth M a b l d r M') := by
  obtain ⟨hL, hG, hz, h11⟩ := hI
  refine jstart (by decide) rfl (fX9_worth_0 ?_)
  refine jc (c_refusedLikeness M a b l) (by decide) ⟨fun q => ?_, fun q => ?_⟩
  rotate_left
  · by_cases h1 : isT a ∧ isT b
    · refine jif_t h1 ?_
      by_cases h2 : 0 ≤ l ∧ l < 3
      · exact absurd (jite_3.mpr ⟨h1, h2⟩) q
      · exact jif_f h2 ⟨by rw [if_pos (show (0 ≤ a ∧ a < 12) ∧ (0 ≤ b ∧ b < 12) from h1), if_neg h2], rfl⟩
    · exact jif_f h1 ⟨by rw [if_neg (show ¬ ((0 ≤ a ∧ a < 12) ∧ (0 ≤ b ∧ b < 12)) from h1)], rfl⟩
  obtain ⟨⟨ha, hb⟩, hl⟩ := jite_3.mp q
  obtain ⟨hGa, hSa⟩ := hG a ha.1 (by omega)
  obtain ⟨hGb, -⟩ := hG b hb.1 (by omega)
  have ha18 : 0 ≤ a ∧ a < 18 := by omega
  have hb18 : 0 ≤ b ∧ b < 18 := by omega
  have b1 := hGa.1.2.1.1
  refine ⟨ha, hb, ?_⟩
  refine jcq (c_take (C := M) (tm := M 18 0 8) (wg := 0) hGa.1 hGb.1 hL hl rfl rfl rfl) (by decide) ?_
  rintro r1 M1 ⟨hR, f1⟩
  refine jcq (c_readDigits (C := M) (a := a) (b := b) ha18 hb18 hGa.1.2.1 hGb.1.2.1 hR.1 hR.2.1 hR.2.2.2.2.2.2.2.1 hR.2.2.2.2.2.2.2.2 hd) (by decide) ?_
  rintro r2 M2 ⟨d1, d2, f2⟩
  refine ⟨fun z => ?_, fun z => jif_t ⟨ha, hb⟩ (jif_t hl ⟨⟨fun q' v n => absurd z (d1 q' v n).1, fun _ => rfl⟩, fun x y h => by rw [f2 x y (by omega), f1 x y (by omega)], fun c c0 c1 => by rw [f2 21 7 (by simp), f1 21 7 (by simp), hz c c0 c1], by rw [f2 22 0 (by simp), f1 22 0 (by simp), h11]⟩)⟩
  obtain ⟨q', v', n'⟩ := d2 z
  have hP := (d1 q' v' n').2
  have hR2 : jRdy M M2 a b l (M 18 0 8) 0 := hR.fx ha18 hb18 (fun x y h _ => f2 x y (by omega))
  refine jcq (c_settle (C := M) (lv := l) (wg := 0) (tm := M 18 0 8) (p := q') hGa.1 hGb.1 hGa.2.1 hGa.2.2.1 hR2 (fun x x0 x1 => ⟨hP x x0 x1, by have := hGb.1.2.1.1; rcases v'.1 x with e | e <;> omega⟩)) (by decide) ?_
  rintro r3 M3 ⟨e3, -, f3⟩
  have hR3 : jRdy M M3 a b l (M 18 0 8) 0 := hR2.fx ha18 hb18 (fun x y h _ => f3 x y (by omega))
  refine jcq (c_sortsShared (C := M) (a := a) (b := b) (q := q') ha18 hb18 hGa.1.2.1 hGb.1.2.1 hR3.1 hR3.2.1 hR3.2.2.2.2.2.2.2.1 hR3.2.2.2.2.2.2.2.2 v' (fun x x0 x1 => by rw [f3 20 6 (by simp)]; exact hP x x0 x1)) (by decide) ?_
  rintro r4 M4 ⟨e4, rfl⟩
  have ew : r3 + r4 = wth M a b l 0 (M 18 0 8) q' := by unfold wth; rw [e3, e4]
  have wb := wth_bd (C := M) (a := a) (b := b) (lv := l) (wg := 0) (tm := M 18 0 8) hGa.1.2.1 hGa.2.2.1 q'
  rw [ew, jwr_id (by omega) (by omega)]
  refine jif_t ⟨ha, hb⟩ (jif_t hl ⟨⟨fun q2 v2 n2 => by rw [vld_num hGb.1.2.1.1.2 v2 v' (by omega)], fun h => absurd ⟨q', v', n'⟩ h⟩, fun x y h => by rw [f3 x y (by omega), f2 x y (by omega), f1 x y (by omega)], fun c c0 c1 => by rw [f3 21 7 (by simp), f2 21 7 (by simp), f1 21 7 (by simp), hz c c0 c1], by rw [f3 22 0 (by simp), f2 22 0 (by simp), f1 22 0 (by simp), h11]⟩)
noncomputable def hits (M : jM) (a b l : Int) (R : Int → Int) (n : Int) : Int := cP (hitN M a b l 0 (M 18 0 8) (wth M a b l 0 (M 18 0 8) R) (prs M a R)) n.toNat
def s_likes (M : jM) (a b l i r : Int) (M' : jM) : Prop :=
  jif (isT a ∧ isT b) (jif (0 ≤ l ∧ l < 3) ((∀ R, best M a b l (M 18 0 8) 0 R → (i = -1 → r = hits M a b l R (10 ^ (M a 0 0).toNat)) ∧ (i < -1 → r = -6) ∧ (0 ≤ i → (hits M a b l R (10 ^ (M a 0 0).toNat) ≤ i → r = -6) ∧ (i < hits M a b l R (10 ^ (M a 0 0).toNat) → ∃ R', vld M a b R' ∧ wth M a b l 0 (M 18 0 8) R' = wth M a b l 0 (M 18 0 8) R ∧ prs M a R' = prs M a R ∧ hits M a b l R (num R' (M a 0 0).toNat) = i ∧ r = num R' (M a 0 0).toNat))) ∧ jKp M M') (r = -2 ∧ M' = M)) (r = -1 ∧ M' = M)
theorem c_likes {M : jM} (hI : jOk M) (a b l i : Int) : jCallP 12 16 [.inr (18, 0), .inl a, .inl b, .inl l, .inl i] M (fun r M' => s_likes M a b l i r M') := by
  obtain ⟨hL, hG, hz, h11⟩ := hI
  refine jstart (by decide) rfl (fX9_likes_0 ?_)
  refine jc (c_refusedLikeness M a b l) (by decide) ⟨fun q => ?_, fun q => ?_⟩
  rotate_left
  · by_cases h1 : isT a ∧ isT b
    · refine jif_t h1 ?_
      by_cases h2 : 0 ≤ l ∧ l < 3
      · exact absurd (jite_3.mpr ⟨h1, h2⟩) q
      · exact jif_f h2 ⟨by rw [if_pos (show (0 ≤ a ∧ a < 12) ∧ (0 ≤ b ∧ b < 12) from h1), if_neg h2], rfl⟩
    · exact jif_f h1 ⟨by rw [if_neg (show ¬ ((0 ≤ a ∧ a < 12) ∧ (0 ≤ b ∧ b < 12)) from h1)], rfl⟩
  obtain ⟨⟨ha, hb⟩, hl⟩ := jite_3.mp q
  obtain ⟨hGa, hSa⟩ := hG a ha.1 (by omega)
  obtain ⟨hGb, -⟩ := hG b hb.1 (by omega)
  have nb := hGb.1.2.1.1.2
  refine ⟨fun hi => ⟨ha, hb, ?_⟩, fun hi => jif_t ⟨ha, hb⟩ (jif_t hl ⟨fun R hR => ⟨fun z => by omega, fun _ => rfl, fun z => by omega⟩, fun _ _ _ => rfl, hz, h11⟩)⟩
  refine jcq (c_likeness (C := M) (tm := M 18 0 8) hL hGa hGb hSa hl rfl rfl rfl hz h11) (by decide) ?_
  rintro r1 M1 ⟨R, hK, -, -, -⟩
  have hB := isL_best hL hGa hGb hK.1
  have k8 := hK.2.2.2.2.2.2.2
  refine jcq (c_list (wn := i) hL hGa hGb hSa hK) (by decide) ?_
  rintro r2 M2 ⟨e2, li, g11, hS2, f2⟩
  have kp : jKp M M2 := ⟨fun x y h => by rw [f2 x y h, k8 x y h], hS2.2.2, g11⟩
  unfold jLi at li
  rw [← e2] at li
  obtain ⟨l1, l2, l3⟩ := li
  have e : ∀ R', best M a b l (M 18 0 8) 0 R' → R' = R := fun R' h => best_one nb h hB
  refine ⟨fun z => ⟨fun z2 => jif_t ⟨ha, hb⟩ (jif_t hl ⟨fun R' hR' => ?_, kp⟩), fun z2 => ?_⟩, fun z => jif_t ⟨ha, hb⟩ (jif_t hl ⟨fun R' hR' => ?_, kp⟩)⟩
  · rw [e R' hR']
    refine ⟨fun w => absurd w z, fun _ => rfl, fun w => ⟨fun _ => rfl, fun w2 => ?_⟩⟩
    have := ((l3 w).2 w2).1
    omega
  · have w : 0 ≤ i := by omega
    have big : i < cP (hitN M a b l 0 (M 18 0 8) (wth M a b l 0 (M 18 0 8) R) (prs M a R)) ((10 : Int) ^ (M a 0 0).toNat).toNat := by
      apply Classical.byContradiction
      intro hn
      have := (l3 w).1 (by omega)
      omega
    obtain ⟨-, R2, v2, w2, p2, c2, x2⟩ := (l3 w).2 big
    refine jcq (c_digits (C := M) (a := a) (b := b) (R := R2) (by omega) hGa.1.2.1 nb (by funext y; exact kp.1 a y (by omega)) hS2.2.1.1 v2 x2) (by decide) ?_
    rintro r3 M3 ⟨e3, rfl⟩
    refine jif_t ⟨ha, hb⟩ (jif_t hl ⟨fun R' hR' => ?_, kp⟩)
    rw [e R' hR']
    exact ⟨fun w' => absurd w' z, fun w' => by omega, fun _ => ⟨fun w' => absurd big (by unfold hits at w'; omega), fun _ => ⟨R2, v2, w2, p2, c2, e3⟩⟩⟩
  · rw [e R' hR']
    exact ⟨fun _ => l1 z, fun w => by omega, fun w => by omega⟩
def s_same (M : jM) (a b r : Int) (M' : jM) : Prop :=
  jif (isT a ∧ isT b) (jif ((M a 0 0 = M b 0 0 ∧ M a 0 1 = M b 0 1) ∧ ∃ q, vld M a b q ∧ wth M a b 0 2 0 q = M a 0 0 + M a 0 1) (r = 1) (r = 0) ∧ jKp M M') (r = -1 ∧ M' = M)
theorem c_same {M : jM} (hI : jOk M) (a b : Int) : jCallP 12 18 [.inr (18, 0), .inl a, .inl b] M (fun r M' => s_same M a b r M') := by
  obtain ⟨hL, hG, hz, h11⟩ := hI
  refine jstart (by decide) rfl (fX9_same_0 ?_)
  refine jc (c_isTale M a) (by decide) ⟨fun q => jif_f (fun q2 => jite_eq.mp q q2.1) ⟨rfl, rfl⟩, fun q => ?_⟩
  have ha := jite_ne.mp q
  refine jc (c_isTale M b) (by decide) ⟨fun q1 => ?_, fun q1 => jif_f (fun q2 => jite_eq.mp q1 q2.2) ⟨rfl, rfl⟩⟩
  have hb := jite_ne.mp q1
  obtain ⟨hGa, hSa⟩ := hG a ha.1 (by omega)
  obtain ⟨hGb, -⟩ := hG b hb.1 (by omega)
  have no : ¬ (M a 0 0 = M b 0 0 ∧ M a 0 1 = M b 0 1) → jWP 12 18 60 [some (.inr (18, 0)), none, none, some (.inr (a, 0)), some (.inr (b, 0)), none] [.inl 0] M (fun r M' => s_same M a b r M') := fun h => fX9_same_60 ⟨fun _ => jif_t ⟨ha, hb⟩ ⟨jif_f (fun z => h z.1) rfl, fun _ _ _ => rfl, hz, h11⟩, fun z => absurd rfl z⟩
  refine ⟨ha, hb, by omega, by omega, fun z => no (fun w => z w.1), fun z => ⟨by omega, by omega, fun z2 => no (fun w => z2 w.2), fun z2 => fX9_same_60 ⟨fun w => absurd w (by decide), fun _ => ?_⟩⟩⟩
  refine jcq (c_isSame (C := M) hL hGa hGb hSa rfl rfl rfl hz h11) (by decide) ?_
  rintro r1 M1 ⟨bl, g11, hS1, f1⟩
  have kp : jKp M M1 := ⟨f1, hS1.2.2, g11⟩
  exact ⟨fun w => jif_t ⟨ha, hb⟩ ⟨jif_f (fun w2 => (jBl_eq bl).mp w w2.2) rfl, kp⟩, fun w => jif_t ⟨ha, hb⟩ ⟨jif_t ⟨⟨z, z2⟩, (jBl_ne bl).mp w⟩ rfl, kp⟩⟩
def s_leftOut (M : jM) (a b r : Int) (M' : jM) : Prop :=
  jif (isT a ∧ isT b) ((∃ R, best M a b 0 (M 18 0 8) 1 R ∧ r = M a 0 1 - wth M a b 0 1 (M 18 0 8) R) ∧ jKp M M') (r = -1 ∧ M' = M)
theorem c_leftOut {M : jM} (hI : jOk M) (a b : Int) : jCallP 12 27 [.inr (18, 0), .inl a, .inl b] M (fun r M' => s_leftOut M a b r M') := by
  obtain ⟨hL, hG, hz, h11⟩ := hI
  refine jstart (by decide) rfl (fX9_leftOut_0 ?_)
  refine jc (c_isTale M a) (by decide) ⟨fun q => jif_f (fun q2 => jite_eq.mp q q2.1) ⟨rfl, rfl⟩, fun q => ?_⟩
  have ha := jite_ne.mp q
  refine jc (c_isTale M b) (by decide) ⟨fun q1 => ?_, fun q1 => jif_f (fun q2 => jite_eq.mp q1 q2.2) ⟨rfl, rfl⟩⟩
  have hb := jite_ne.mp q1
  obtain ⟨hGa, hSa⟩ := hG a ha.1 (by omega)
  obtain ⟨hGb, -⟩ := hG b hb.1 (by omega)
  refine ⟨ha, by omega, ha, hb, ?_⟩
  refine jcq (c_mostAnswering (C := M) (tm := M 18 0 8) hL hGa hGb hSa rfl rfl rfl hz h11) (by decide) ?_
  rintro r1 M1 ⟨R, hK, e1⟩
  have hB := isL_best hL hGa hGb hK.1
  obtain ⟨-, hS1, -, -, -, g11, -, k8⟩ := hK
  have wb := wth_bd (C := M) (a := a) (b := b) (lv := 0) (wg := 1) (tm := M 18 0 8) hGa.1.2.1 hGa.2.2.1 R
  have t := hGa.1.2.1.2
  rw [jwr_id (by omega) (by omega)]
  exact jif_t ⟨ha, hb⟩ ⟨⟨R, hB, by rw [e1]⟩, k8, hS1.2.2, g11⟩
