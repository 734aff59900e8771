/-! series -/
/-- the third tale without what is lost -/
noncomputable def srL (T S : jM) (a c : Int) (F A : Int → Int) : Nat → jM := wv c (fun k => ¬ lsN F A (T a 0 1) k) (T c 5) (T c 7) S
/-- and with what is won -/
noncomputable def srW (W : jM) (a b : Int) (F : Int → Int) : Nat → jM := wv b (fun j => ¬ cmeN F (W a 0 1) j) (W b 5) (W b 7) W
def srS (T S W : jM) (a b c : Int) (R1 R2 F A : Int → Int) : Prop := wLf T S c (T c 0 0) ∧ jWk S ∧ wOk c (fun k => ¬ lsN F A (T a 0 1) k) (T c 5) (T c 7) S ∧
  brX W R1 R2 (T a 0 0) ∧ brT W F A (srL T S a c F A (T c 0 1).toNat 26 7) (T a 0 1) ∧ (∀ x y, ¬ x = 26 → W x y = srL T S a c F A (T c 0 1).toNat x y) ∧ jWk W ∧ wOk b (fun j => ¬ cmeN F (W a 0 1) j) (W b 5) (W b 7) W
def s_series (M : jM) (a b c d r : Int) (M' : jM) : Prop :=
  jif (isT a ∧ isT b ∧ isT c ∧ isT d) (∃ R1 R2 T S W, best M a b 0 (M 18 0 8) 0 R1 ∧ best M a c 0 (M 18 0 8) 0 R2 ∧ (∀ x y, ¬ ((20 ≤ x ∧ x ≤ 22) ∨ x = 26) → T x y = M x y) ∧ srS T S W a b c R1 R2 (ans M a b 0 0 (M 18 0 8) R1) (ans M a c 0 0 (M 18 0 8) R2) ∧
    jif (noRoom (srW W a b (ans M a b 0 0 (M 18 0 8) R1)) b (fun j => ¬ cmeN (ans M a b 0 0 (M 18 0 8) R1) (W a 0 1) j) (W b 0 1)) (r = -4 ∧ ∀ x y, ¬ (x = 14 ∨ (20 ≤ x ∧ x ≤ 22) ∨ x = 26) → M' x y = M x y)
      (agr (srW W a b (ans M a b 0 0 (M 18 0 8) R1) (W b 0 1).toNat) M' 14 d ∧ M' d 0 2 = srW W a b (ans M a b 0 0 (M 18 0 8) R1) (W b 0 1).toNat 14 0 2 ∧ r = srW W a b (ans M a b 0 0 (M 18 0 8) R1) (W b 0 1).toNat 14 0 1 ∧ ∀ x y, ¬ (x = d ∨ x = 14 ∨ (20 ≤ x ∧ x ≤ 22) ∨ x = 26) → M' x y = M x y) ∧ jZr M') (r = -1 ∧ M' = M)
theorem ans_inj {C : jM} {a b lv wg tm : Int} {p : Int → Int} : inj (ans C a b lv wg tm p) (C a 0 1) := by
  intro i j i0 i1 j0 j1 hi e
  obtain ⟨i, rfl⟩ : ∃ n : Nat, i = n := ⟨i.toNat, by omega⟩
  obtain ⟨j, rfl⟩ : ∃ n : Nat, j = n := ⟨j.toNat, by omega⟩
  by_cases u : i = j
  · rw [u]
  · exfalso
    by_cases v : i < j
    · exact ans_apart (N := (C a 0 1).toNat) v (by omega) rfl e.symm hi
    · exact ans_apart (N := (C a 0 1).toNat) (k := j) (n := i) (by omega) (by omega) rfl e (show 0 ≤ ans C a b lv wg tm p j by rw [← e]; exact hi)
theorem c_series {M : jM} (hI : jOk M) (a b c d : Int) : jCallP 12 26 [.inr (18, 0), .inl a, .inl b, .inl c, .inl d] M (fun r M' => s_series M a b c d r M') := by
  obtain ⟨hL, hG, hz, h11⟩ := hI
  refine jstart (by decide) rfl (fX9_series_0 ?_)
  refine jc (c_isTale M a) (by decide) ⟨fun q => jif_f (fun q2 => jite_eq.mp q q2.1) ⟨rfl, rfl⟩, fun q => ?_⟩
  have ha := jite_ne.mp q
  refine jc (c_isTale M b) (by decide) ⟨fun q => jif_f (fun q2 => jite_eq.mp q q2.2.1) ⟨rfl, rfl⟩, fun q => ?_⟩
  have hb := jite_ne.mp q
  refine jc (c_isTale M c) (by decide) ⟨fun q => jif_f (fun q2 => jite_eq.mp q q2.2.2.1) ⟨rfl, rfl⟩, fun q => ?_⟩
  have hc := jite_ne.mp q
  refine jc (c_isTale M d) (by decide) ⟨fun q => ?_, fun q => jif_f (fun q2 => jite_eq.mp q q2.2.2.2) ⟨rfl, rfl⟩⟩
  have hd := jite_ne.mp q
  obtain ⟨hGa, hSa⟩ := hG a ha.1 (by omega)
  obtain ⟨hGb, -⟩ := hG b hb.1 (by omega)
  obtain ⟨hGc, hSc⟩ := hG c hc.1 (by omega)
  have na := hGa.1.2.1
  have nb := hGb.1.2.1
  have nc := hGc.1.2.1
  have na1 := na.1
  have na2 := na.2
  have nb1 := nb.1
  have nb2 := nb.2
  have nc1 := nc.1
  have nc2 := nc.2
  refine ⟨ha, hb, jcq (c_likeness (C := M) (tm := M 18 0 8) hL hGa hGb hSa (by omega) rfl rfl rfl hz h11) (by decide) ?_⟩
  rintro r5 M5 ⟨R1, hK, -, hR, hA⟩
  have hB1 := isL_best hL hGa hGb hK.1
  obtain ⟨-, hS2, -, -, -, g11, -, k8⟩ := hK
  have ea5 : M5 a = M a := by funext y; exact k8 a y (by omega)
  refine ⟨ha, jcq (c_noteFirst (M := M5) (a := a) (by omega) (by unfold jNB; rw [ea5]; exact na)) (by decide) ?_⟩
  rintro r6 M6 ⟨n4, n5, f6⟩
  rw [ea5] at n4 n5
  have t6 : ∀ x y, ¬ ((20 ≤ x ∧ x ≤ 22) ∨ x = 26) → M6 x y = M x y := fun x y h => by rw [f6 x y (by omega), k8 x y (by omega)]
  rw [t6 18 0 (by omega)]
  refine ⟨ha, hc, jcq (c_likeness (C := M) (M := M6) (tm := M 18 0 8) hL hGa hGc hSa (by omega) (by funext y; exact t6 19 y (by omega)) (by funext y; exact t6 a y (by omega)) (by funext y; exact t6 c y (by omega)) (fun x x0 x1 => by rw [f6 21 7 (by simp)]; exact hS2.2.2 x x0 x1) (by rw [f6 22 0 (by simp)]; exact g11)) (by decide) ?_⟩
  rintro r7 T ⟨R2, hK, -, hR2, hA2⟩
  have hB2 := isL_best hL hGa hGc hK.1
  obtain ⟨-, hS3, -, -, -, g12, -, k9⟩ := hK
  have tT : ∀ x y, ¬ ((20 ≤ x ∧ x ≤ 22) ∨ x = 26) → T x y = M x y := fun x y h => by rw [k9 x y (by omega), t6 x y h]
  have eT26 : T 26 = M6 26 := by funext y; exact k9 26 y (by simp)
  have eT19 : T 19 = M 19 := by funext y; exact tT 19 y (by omega)
  have eTg : ∀ g, 0 ≤ g ∧ g < 14 → T g = M g := fun g h => by funext y; exact tT g y (by omega)
  have fbd := fun i => ansF_bd M a b 0 0 (M 18 0 8) R1 nb2.1 (M a 0 1).toNat i
  have abd := fun i => ansF_bd M a c 0 0 (M 18 0 8) R2 nc2.1 (M a 0 1).toNat i
  have hF0 : ∀ i, 0 ≤ i → i < M a 0 1 → M6 26 5 i = ans M a b 0 0 (M 18 0 8) R1 i := fun i i0 i1 => by rw [n5 i i0 i1, hA i i0 i1]
  have iF : inj (ans M a b 0 0 (M 18 0 8) R1) (M a 0 1) := ans_inj
  have hFb : ∀ i, -1 ≤ ans M a b 0 0 (M 18 0 8) R1 i ∧ ans M a b 0 0 (M 18 0 8) R1 i < 14 := fun i => by have := fbd i; unfold ans; omega
  have hAb : ∀ i, -1 ≤ ans M a c 0 0 (M 18 0 8) R2 i ∧ ans M a c 0 0 (M 18 0 8) R2 i < 14 := fun i => by have := abd i; unfold ans; omega
  have hA0 : ∀ i, 0 ≤ i → i < M a 0 1 → T 20 7 i = ans M a c 0 0 (M 18 0 8) R2 i := hA2
  generalize hFe : ans M a b 0 0 (M 18 0 8) R1 = F at hF0 iF hFb
  generalize hAe : ans M a c 0 0 (M 18 0 8) R2 = A at hA0 hAb
  have eTa := eTg a (by omega)
  have eTb := eTg b (by omega)
  have eTc := eTg c (by omega)
  refine ⟨ha, hc, jcq (c_weaveLeft (M := T) (a := a) (c := c) (F := F) (A := A) (by omega) (by omega) (by unfold jNB; rw [eTa]; exact na) (good_agr eT19 (agr_fx eTc) (by omega) hGc) (sr_agr (agr_fx eTc) hSc) (fun i i0 i1 => by rw [eTa] at i1; rw [eT26]; exact hF0 i i0 i1) (fun i i0 i1 => by rw [eTa] at i1; exact ⟨hA0 i i0 i1, hAb i⟩)) (by decide) ?_⟩
  rintro r8 M8 ⟨S, h1, h2, h3, h4, h5⟩
  have eSg : ∀ g, 0 ≤ g ∧ g < 14 → S g = T g := fun g h => by funext y; exact h1.2.2.2.2.2.2 g y (by omega) (by omega)
  have w := (wv_wk h3 h2 (T c 0 1).toNat (by rw [eSg c (by omega), eTc]; omega)).1
  have f := (wv_fr c (fun k => ¬ lsN F A (T a 0 1) k) (T c 5) (T c 7) S (T c 0 1).toNat).1
  have f00 := (wv_fr c (fun k => ¬ lsN F A (T a 0 1) k) (T c 5) (T c 7) S (T c 0 1).toNat).2.1
  have hD1 : srL T S a c F A = wv c (fun k => ¬ lsN F A (T a 0 1) k) (T c 5) (T c 7) S := rfl
  rw [← hD1] at w f f00 h4 h5
  generalize hDD : srL T S a c F A (T c 0 1).toNat = D1 at w f f00 h4 h5
  have m8 : ∀ x y, ¬ (x = 14 ∧ (y = 0 ∨ y = 4 ∨ y = 5 ∨ y = 6 ∨ y = 7 ∨ y = 8)) → ¬ (x = 26 ∧ (y = 6 ∨ y = 7 ∨ y = 8 ∨ y = 9)) → M8 x y = T x y := fun x y h h' => by
    rw [h4 x y (by omega), f x y (by omega) (by omega), h1.2.2.2.2.2.2 x y (by omega) (by omega)]
  have e8a : M8 a = M a := by rw [← eTa]; funext y; exact m8 a y (by omega) (by omega)
  refine ⟨ha, jcq (c_bridge (M := M8) (a := a) (FP := R1) (P := R2) (F := F) (A := A) (by omega) (by unfold jNB; rw [e8a]; exact na) (fun x x0 x1 => ?_) (fun x x0 x1 => ?_) (fun i i0 i1 => ?_) (fun i i0 i1 => ?_) ?_ ?_) (by decide) ?_⟩
  · rw [e8a] at x1
    refine ⟨by rw [m8 26 4 (by simp) (by simp), eT26, n4 x x0 x1, hR x x0 x1], ?_⟩
    rcases hB1.1.1 x with e | e <;> omega
  · rw [e8a] at x1
    rw [m8 20 6 (by simp) (by simp), hR2 x x0 x1]
  · rw [e8a] at i1
    exact ⟨by rw [m8 26 5 (by simp) (by simp), eT26, hF0 i i0 i1], (hFb i).2⟩
  · rw [e8a] at i1
    exact ⟨by rw [m8 20 7 (by simp) (by simp), hA0 i i0 i1], (hAb i).2⟩
  · exact fun x y _ _ _ _ hx e => hB1.1.2 x y hx e
  · rw [e8a]; exact iF
  rintro r9 W ⟨bX, bT, f9⟩
  rw [e8a] at bX bT
  have bT' : brT W F A (D1 26 7) (M a 0 1) := ⟨fun i i0 i1 h h' => by rw [bT.1 i i0 i1 h h', h5 (A i) h' (hAb i).2], bT.2⟩
  have wD : ∀ x y, ¬ x = 26 → W x y = D1 x y := fun x y h => by rw [f9 x y (by omega), h4 x y (by omega)]
  have eW14 : W 14 = D1 14 := by funext y; exact wD 14 y (by omega)
  have eD19 : D1 19 = M 19 := by funext y; rw [f 19 y (by simp) (by simp), h1.2.2.2.2.2.2 19 y (by simp) (by simp), eT19]
  have eW19 : W 19 = M 19 := by rw [← eD19]; funext y; exact wD 19 y (by omega)
  have eWg : ∀ g, 0 ≤ g ∧ g < 14 → W g = M g := fun g h => by rw [← eTg g h, ← eSg g h]; funext y; rw [wD g y (by omega), f g y (by omega) (by omega)]
  have eWa := eWg a (by omega)
  have eWb := eWg b (by omega)
  have d00 : D1 14 0 0 = M c 0 0 := by rw [f00, h1.1, eTc]
  have hW : jWk W := by
    obtain ⟨w1, w2, w3, w4, w5⟩ := w
    have h19 : W 19 = D1 19 := by rw [eW19, eD19]
    refine ⟨good_agr h19 (agr_fx eW14) (by omega) w1, uq_agr h19 (agr_fx eW14) w2, sr_agr (agr_fx eW14) w3, fun y y0 y1 => ?_, fun j j0 j1 => ?_⟩
    · rw [eW14]
      by_cases u : ∃ x, 0 ≤ x ∧ x < M a 0 0 ∧ R1 x = y
      · obtain ⟨x, x0, x1, e⟩ := u
        rw [← e, bX.1 x x0 x1 (by omega), d00]
        rcases hB2.1.1 x with e | e <;> omega
      · rw [bX.2 y y0 y1 (fun x x0 x1 e => u ⟨x, x0, x1, e⟩)]
        omega
    · rw [eW14]
      have n14 := w1.1.2.1.2
      by_cases u : ∃ i, 0 ≤ i ∧ i < M a 0 1 ∧ 0 ≤ A i ∧ F i = j
      · obtain ⟨i, i0, i1, e1, e2⟩ := u
        rw [← e2, bT'.1 i i0 i1 (by omega) e1]
        exact w5 (A i) e1 (hAb i).2
      · rw [bT'.2 j j0 j1 (fun i i0 i1 h e => u ⟨i, i0, i1, h, e⟩)]
        omega
  have hO : wOk b (fun j => ¬ cmeN F (W a 0 1) j) (W b 5) (W b 7) W := ⟨by omega, good_agr eW19 (agr_fx eWb) (by omega) hGb, fun i i0 i1 _ => by
    rw [eWb] at i1 ⊢
    exact ⟨hGb.1.2.2.1 i i0 i1, rfl, (hGb.1.2.2.2 i i0 i1).1, (hGb.1.2.2.2 i i0 i1).2⟩⟩
  refine ⟨ha, hb, jcq (c_putWon (M := W) (a := a) (b := b) (F := F) (by omega) (by omega) (by unfold jNB; rw [eWa]; exact na) (fun i i0 i1 => ?_) hW hO) (by decide) ?_⟩
  · rw [eWa] at i1
    exact ⟨by rw [f9 26 5 (by simp), m8 26 5 (by simp) (by simp), eT26, hF0 i i0 i1], (hFb i).2⟩
  rintro r10 M10 ⟨bl, hE, f10⟩
  have hs : srS T S W a b c R1 R2 F A := ⟨h1, h2, h3, by rw [eTa]; exact bX, by rw [eTa, hDD]; exact bT', by rw [hDD]; exact wD, hW, hO⟩
  have hD2 : wv b (fun j => ¬ cmeN F (W a 0 1) j) (W b 5) (W b 7) W = srW W a b F := rfl
  have v := fun n => wv_fr b (fun j => ¬ cmeN F (W a 0 1) j) (W b 5) (W b 7) W n
  have w10 := (wv_wk hO hW (W b 0 1).toNat (by rw [eWb]; omega)).1
  rw [hD2] at bl hE v w10
  have fr10 : ∀ x y, ¬ (x = 14 ∨ (20 ≤ x ∧ x ≤ 22) ∨ x = 26) → M10 x y = M x y := fun x y h => by
    rw [f10 x y (by omega), wD x y (by omega), f x y (by omega) (by omega), h1.2.2.2.2.2.2 x y (by omega) (by omega), tT x y (by omega)]
  have fr2 : ∀ x y, (20 ≤ x ∧ x ≤ 22) → M10 x y = T x y := fun x y h => by
    rw [f10 x y (by omega), wD x y (by omega), f x y (by omega) (by omega), h1.2.2.2.2.2.2 x y (by omega) (by omega)]
  refine ⟨fun q => ?_, fun q => jif_t ⟨ha, hb, hc, hd⟩ ⟨R1, R2, T, S, W, hB1, hB2, tT, by rw [hFe, hAe]; exact hs, ?_, fun x x0 x1 => by rw [fr2 21 7 (by omega)]; exact hS3.2.2 x x0 x1, by rw [fr2 22 0 (by omega)]; exact g12⟩⟩
  rotate_left
  · rw [hFe]
    exact jif_t (Classical.byContradiction (fun h => (jBl_eq bl).mp q h)) ⟨rfl, fr10⟩
  have hEE := hE q
  refine ⟨hd, by omega, jcq (c_become (M := M10) (g := d) (h := 14) (by omega) (by omega)) (by decide) ?_⟩
  rintro r11 M11 hBe
  have e14 : M10 14 = srW W a b F (W b 0 1).toNat 14 := by funext y; exact hEE 14 y (by simp)
  have n14 : jNB M10 14 := by unfold jNB; rw [e14]; exact jwk_nb w10
  have ag := agr_became n14 hBe
  have f11 : ∀ x y, ¬ x = d → M11 x y = M10 x y := fun x y h => hBe.2.2.2.2.2.2 x y (by omega)
  refine ⟨hd, by omega, jif_t ⟨ha, hb, hc, hd⟩ ⟨R1, R2, T, S, W, hB1, hB2, tT, by rw [hFe, hAe]; exact hs, ?_, fun x x0 x1 => by rw [f11 21 7 (by omega), fr2 21 7 (by omega)]; exact hS3.2.2 x x0 x1, by rw [f11 22 0 (by omega), fr2 22 0 (by omega)]; exact g12⟩⟩
  rw [hFe]
  refine jif_f ((jBl_ne bl).mp q) ⟨by unfold agr at ag ⊢; rw [e14] at ag; exact ag, by rw [hBe.1 2 (by omega) (by omega), e14], by rw [hBe.1 1 (by omega) (by omega), e14], fun x y h => by rw [f11 x y (by omega), fr10 x y (by omega)]⟩
