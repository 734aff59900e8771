/-! common -/
def jZr (M' : jM) : Prop := (∀ c, 0 ≤ c → c < 100 → M' 21 7 c = 0) ∧ M' 22 0 11 = 0
def cmS (T S : jM) (a b : Int) (R A : Int → Int) : Prop := wTh T S a b R (T a 0 0).toNat ∧ jWk S ∧ wOk a (fun i => 0 ≤ A i) (cK T a b A) (fun _ => -1) S
noncomputable def cmD (T S : jM) (a b : Int) (A : Int → Int) : jM := wv a (fun i => 0 ≤ A i) (cK T a b A) (fun _ => -1) S (T a 0 1).toNat
def s_common (M : jM) (a b c l r : Int) (M' : jM) : Prop :=
  jif (isT a ∧ isT b ∧ isT c) (jif (0 ≤ l ∧ l < 3) (jif (c = a ∨ c = b) (r = -5 ∧ M' = M) (∃ R T S, best M a b l (M 18 0 8) 0 R ∧ (∀ x y, ¬ (20 ≤ x ∧ x ≤ 22) → T x y = M x y) ∧ cmS T S a b R (ans M a b l 0 (M 18 0 8) R) ∧
    agr (cmD T S a b (ans M a b l 0 (M 18 0 8) R)) M' 14 c ∧ M' c 0 2 = cmD T S a b (ans M a b l 0 (M 18 0 8) R) 14 0 2 ∧ r = cmD T S a b (ans M a b l 0 (M 18 0 8) R) 14 0 1 ∧ (∀ x y, ¬ (x = c ∨ x = 14 ∨ (20 ≤ x ∧ x ≤ 22) ∨ x = 26) → M' x y = M x y) ∧ jZr M')) (r = -2 ∧ M' = M)) (r = -1 ∧ M' = M)
theorem jwk_nb {D : jM} (h : jWk D) : jNB D 14 := h.1.1.2.1
theorem c_common {M : jM} (hI : jOk M) (a b c l : Int) : jCallP 12 25 [.inr (18, 0), .inl a, .inl b, .inl c, .inl l] M (fun r M' => s_common M a b c l r M') := by
  obtain ⟨hL, hG, hz, h11⟩ := hI
  refine jstart (by decide) rfl (fX9_common_0 ?_)
  refine jc (c_isTale M a) (by decide) ⟨fun q => jif_f (fun q2 => jite_eq.mp q q2.1) ⟨rfl, rfl⟩, fun q => ?_⟩
  have ha := jite_ne.mp q
  refine jc (c_isTale M b) (by decide) ⟨fun q => jif_f (fun q2 => jite_eq.mp q q2.2.1) ⟨rfl, rfl⟩, fun q => ?_⟩
  have hb := jite_ne.mp q
  refine jc (c_isTale M c) (by decide) ⟨fun q => ?_, fun q => jif_f (fun q2 => jite_eq.mp q q2.2.2) ⟨rfl, rfl⟩⟩
  have hc := jite_ne.mp q
  refine jc (c_isLevel M l) (by decide) ⟨fun q => ?_, fun q => jif_t ⟨ha, hb, hc⟩ (jif_f (fun q2 => jite_eq.mp q q2) ⟨rfl, rfl⟩)⟩
  have hl := jite_ne.mp q
  refine ⟨fun z => jif_t ⟨ha, hb, hc⟩ (jif_t hl (jif_t (Or.inl z) ⟨rfl, rfl⟩)), fun z => ⟨fun z2 => ?_, fun z2 => jif_t ⟨ha, hb, hc⟩ (jif_t hl (jif_t (Or.inr z2) ⟨rfl, rfl⟩))⟩⟩
  obtain ⟨hGa, hSa⟩ := hG a ha.1 (by omega)
  obtain ⟨hGb, -⟩ := hG b hb.1 (by omega)
  refine ⟨ha, hb, jcq (c_likeness (C := M) (tm := M 18 0 8) hL hGa hGb hSa hl rfl rfl rfl hz h11) (by decide) ?_⟩
  rintro r5 T ⟨R, hK, -, hR, hA⟩
  have hB := isL_best hL hGa hGb hK.1
  obtain ⟨-, hS2, -, -, -, g11, -, k8⟩ := hK
  have tf : ∀ x y, ¬ (20 ≤ x ∧ x ≤ 22) → T x y = M x y := fun x y h => k8 x y (by omega)
  have e19 : T 19 = M 19 := by funext y; exact tf 19 y (by omega)
  have ea : T a = M a := by funext y; exact tf a y (by omega)
  have eb : T b = M b := by funext y; exact tf b y (by omega)
  have hLT : jLV T := by unfold jLV at hL ⊢; rw [e19]; exact hL
  have nb := hGb.1.2.1.2
  refine ⟨ha, hb, jcq (c_weaveCommon (M := T) (R := R) (A := ans M a b l 0 (M 18 0 8) R) hLT (by omega) (by omega) (good_agr e19 (agr_fx ea) (by omega) hGa) (good_agr e19 (agr_fx eb) (by omega) hGb) (sr_agr (agr_fx ea) hSa) ((vld_agr (agr_fx ea) (agr_fx eb)).mpr hB.1) (fun x x0 x1 => by rw [ea] at x1; exact hR x x0 x1) (fun i i0 i1 => ⟨by rw [ea] at i1; exact hA i i0 i1, by rw [eb]; exact ansF_bd M a b l 0 (M 18 0 8) R nb.1 (M a 0 1).toNat i⟩)) (by decide) ?_⟩
  rintro r6 M6 ⟨S, h1, h2, h3, h4⟩
  have w := wv_wk h3 h2 (T a 0 1).toNat
  have f := wv_fr a (fun i => 0 ≤ ans M a b l 0 (M 18 0 8) R i) (cK T a b (ans M a b l 0 (M 18 0 8) R)) (fun _ => -1) S (T a 0 1).toNat
  have eSa : S a = T a := by funext y; exact h1.2.2.2.2.2.2.2 a y (by omega) (by omega)
  have na := hGa.1.2.1.2
  have hW := (w (by rw [eSa, ea]; omega)).1
  have hD : cmD T S a b (ans M a b l 0 (M 18 0 8) R) = wv a (fun i => 0 ≤ ans M a b l 0 (M 18 0 8) R i) (cK T a b (ans M a b l 0 (M 18 0 8) R)) (fun _ => -1) S (T a 0 1).toNat := rfl
  rw [← hD] at hW f h4
  generalize hDD : cmD T S a b (ans M a b l 0 (M 18 0 8) R) = D at hW f h4
  have e14 : M6 14 = D 14 := by funext y; exact h4 14 y (by simp)
  refine ⟨hc, by omega, jcq (c_become (M := M6) (g := c) (h := 14) (by omega) (by omega)) (by decide) ?_⟩
  rintro r7 M7 hBe
  have n14 : jNB M6 14 := by unfold jNB; rw [e14]; exact jwk_nb hW
  have ag := agr_became n14 hBe
  have e2 := hBe.1 2 (by omega) (by omega)
  have fin : ∀ x y, ¬ (x = c ∨ x = 14 ∨ x = 26) → M7 x y = T x y := fun x y h => by
    rw [hBe.2.2.2.2.2.2 x y (by omega), h4 x y (by omega), f.1 x y (by omega) (by omega), h1.2.2.2.2.2.2.2 x y (by omega) (by omega)]
  have e1 : M7 c 0 1 = D 14 0 1 := by rw [hBe.1 1 (by omega) (by omega), e14]
  refine ⟨hc, by omega, jif_t ⟨ha, hb, hc⟩ (jif_t hl (jif_f (by omega) ⟨R, T, S, hB, tf, ⟨h1, h2, h3⟩, ?_⟩))⟩
  rw [hDD]
  refine ⟨by unfold agr at ag ⊢; rw [e14] at ag; exact ag, by rw [e2, e14], e1, fun x y h => by rw [fin x y (by omega), tf x y (by omega)], fun x x0 x1 => by rw [fin 21 7 (by omega)]; exact hS2.2.2 x x0 x1, by rw [fin 22 0 (by omega)]; exact g11⟩
