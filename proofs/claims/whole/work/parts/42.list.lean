/-! list, isSame -/
def hitN (C : jM) (a b lv wg tm W P d : Int) : Prop := ∃ q, vld C a b q ∧ wth C a b lv wg tm q = W ∧ prs C a q = P ∧ num q (C a 0 0).toNat = d
theorem cP_skip {P : Int → Prop} {D D' : Nat} (h : D ≤ D') (hn : ∀ d : Int, (D : Int) ≤ d → d < D' → ¬ P d) : cP P D' = cP P D := by
  rw [cP_cut (k := D) D' h, cP_z (U := fun x => (D : Int) ≤ x ∧ P x) D' (fun j j0 j1 q => hn j q.1 j1 q.2), Int.add_zero]
/-- how far the list came: c likenesses so far -/
def jLi (C M : jM) (a b lv wg tm W P wn c : Int) : Prop :=
  (wn = -1 → M 22 0 12 = c) ∧ (wn < -1 → M 22 0 12 = 0) ∧ (0 ≤ wn → (c ≤ wn → M 22 0 12 = c) ∧ (wn < c → M 22 0 12 = wn + 1 ∧ ∃ R, vld C a b R ∧ wth C a b lv wg tm R = W ∧ prs C a R = P ∧ cP (hitN C a b lv wg tm W P) (num R (C a 0 0).toNat).toNat = wn ∧ ∀ x, 0 ≤ x → x < C a 0 0 → M 22 11 x = R x))
def jLst (C : jM) (a b lv wg tm W P wn : Int) (M : jM) (D : Int) : Prop :=
  ¬ M 22 0 11 = 0 ∧ M 22 0 8 = W ∧ M 22 0 9 = P ∧ M 22 0 13 = wn ∧ 0 ≤ D ∧ jLi C M a b lv wg tm W P wn (cP (hitN C a b lv wg tm W P) D.toNat)
theorem jLst_ph {C : jM} {a b lv wg tm sp W P wn : Int} (nb : C b 0 0 ≤ 6) (hsp : C a 0 0 - P ≤ sp) : jPh C a b lv wg tm sp (jLst C a b lv wg tm W P wn) := by
  refine ⟨fun M M' D hs h => ?_, fun M D D' hD hDD hp h => ?_, fun M M' q hv hq hA h => ?_, fun M D h h2 hD => ?_⟩
  · obtain ⟨h1, h2, h3, h4, h5, h6⟩ := hs
    unfold jLst jLi at h ⊢
    rw [h1, h2, h3, h4, h5, h6]
    exact h
  · obtain ⟨h11, h8, h9, h13, h0, h1, h2, h3⟩ := h
    have mo := (cP_more (P := hitN C a b lv wg tm W P) (k := D.toNat) D'.toNat (by omega)).1
    have c0 := cP_bd (hitN C a b lv wg tm W P) D.toNat
    refine ⟨h11, h8, h9, h13, by omega, ?_⟩
    by_cases sat : ¬ wn = -1 ∧ wn < M 22 0 12
    · refine ⟨fun e => absurd e sat.1, h2, fun w0 => ?_⟩
      by_cases y : wn < cP (hitN C a b lv wg tm W P) D.toNat
      · exact ⟨fun z => by omega, fun _ => (h3 w0).2 y⟩
      · have := (h3 w0).1 (by omega)
        omega
    · have e : cP (hitN C a b lv wg tm W P) D'.toNat = cP (hitN C a b lv wg tm W P) D.toNat := by
        refine cP_skip (by omega) (fun d d0 d1 hh => ?_)
        obtain ⟨q, q1, q2, q3, q4⟩ := hh
        rcases hp q q1 (by omega) (by omega) (by omega) with w | w
        · exact h11 w.1
        · rcases w.2 with w | w
          · rw [h13] at w; exact sat w
          · exact w ⟨by rw [h8]; exact q2, by rw [h9]; exact q3⟩
      rw [e]
      exact ⟨h1, h2, h3⟩
  · obtain ⟨h11, h8, h9, h13, h0, h1, h2, h3⟩ := h
    obtain ⟨a1, -, a3, a4⟩ := hA
    have e11 : M' 22 0 11 = M 22 0 11 := a1 11 (by simp)
    have e13 : M' 22 0 13 = M 22 0 13 := a1 13 (by simp)
    have c0 := cP_bd (hitN C a b lv wg tm W P) (num q (C a 0 0).toNat).toNat
    have et : (num q (C a 0 0).toNat + 1).toNat = (num q (C a 0 0).toNat).toNat + 1 := by omega
    have hit : hitN C a b lv wg tm W P ((num q (C a 0 0).toNat).toNat : Nat) ↔ (wth C a b lv wg tm q = W ∧ prs C a q = P) := by
      constructor
      · rintro ⟨q', q1, q2, q3, q4⟩
        have := vld_num nb q1 hv (by omega)
        rw [this] at q2 q3
        exact ⟨q2, q3⟩
      · rintro ⟨q2, q3⟩
        exact ⟨q, hv, q2, q3, by omega⟩
    by_cases hpo : poor C M a b lv wg tm q
    · obtain ⟨b1, b2, b3, b4⟩ := a3 hpo
      refine ⟨by rw [e11]; exact h11, by rw [b1, h8], by rw [b2, h9], by rw [e13, h13], by omega, ?_⟩
      unfold jLi
      rw [b3, b4, et]
      by_cases sat : ¬ wn = -1 ∧ wn < M 22 0 12
      · refine ⟨fun e => absurd e sat.1, h2, fun w0 => ?_⟩
        have mo := (cP_more (P := hitN C a b lv wg tm W P) (k := (num q (C a 0 0).toNat).toNat) ((num q (C a 0 0).toNat).toNat + 1) (by omega)).1
        by_cases y : wn < cP (hitN C a b lv wg tm W P) (num q (C a 0 0).toNat).toNat
        · exact ⟨fun z => by omega, fun _ => (h3 w0).2 y⟩
        · have := (h3 w0).1 (by omega)
          omega
      · have nh : ¬ (wth C a b lv wg tm q = W ∧ prs C a q = P) := by
          rcases hpo with w | w
          · exact absurd w.1 h11
          · rcases w.2 with w | w
            · rw [h13] at w; exact absurd w sat
            · rw [h8, h9] at w; exact w
        rw [cP_no (fun z => nh (hit.mp z))]
        exact ⟨h1, h2, h3⟩
    · obtain ⟨b1, b2, b3, b4⟩ := a4 h11 hpo
      have nsat : ¬ (¬ wn = -1 ∧ wn < M 22 0 12) := fun z => hpo (Or.inr ⟨h11, Or.inl (by rw [h13]; exact z)⟩)
      have yh : wth C a b lv wg tm q = W ∧ prs C a q = P := by
        by_cases y : wth C a b lv wg tm q = W ∧ prs C a q = P
        · exact y
        · exact absurd (Or.inr ⟨h11, Or.inr (by rw [h8, h9]; exact y)⟩) hpo
      refine ⟨by rw [e11]; exact h11, by rw [b1, h8], by rw [b2, h9], by rw [e13, h13], by omega, ?_⟩
      unfold jLi
      rw [b3, et, cP_yes (hit.mpr yh)]
      refine ⟨fun e => by rw [h1 e], fun e => ?_, fun w0 => ?_⟩
      · have := h2 e
        omega
      · have cle : cP (hitN C a b lv wg tm W P) (num q (C a 0 0).toNat).toNat ≤ wn := by
          by_cases y : wn < cP (hitN C a b lv wg tm W P) (num q (C a 0 0).toNat).toNat
          · have := ((h3 w0).2 y).1
            omega
          · omega
        have e := (h3 w0).1 cle
        refine ⟨fun z => by omega, fun z => ⟨by omega, q, hv, yh.1, yh.2, by omega, b4⟩⟩
  · obtain ⟨h11, h8, h9, h13, h0, h1, h2, h3⟩ := h
    have c0 := cP_bd (hitN C a b lv wg tm W P) D.toNat
    by_cases y : wn = -1
    · have := h1 y; omega
    · by_cases y2 : wn < -1
      · have := h2 y2; omega
      · have := h3 (by omega)
        by_cases y3 : wn < cP (hitN C a b lv wg tm W P) D.toNat
        · have := (this.2 y3).1; omega
        · have := this.1 (by omega); omega
theorem jSe.fx {C M M' : jM} {a b lv tm wg : Int} (ha : 0 ≤ a ∧ a < 18) (hb : 0 ≤ b ∧ b < 18) (hS : jSe C M a b lv tm wg) (h : ∀ x y, ¬ (x = 20 ∧ (y = 6 ∨ y = 7 ∨ y = 8 ∨ y = 14)) → ¬ (x = 22 ∧ (y = 0 ∨ y = 11)) → M' x y = M x y) (e22 : ∀ z, (z = 2 ∨ z = 3 ∨ z = 4) → M' 22 0 z = M 22 0 z) : jSe C M' a b lv tm wg := by
  obtain ⟨⟨r1, r2, r3, hT, hC, hH, h19, hMa, hMb⟩, ⟨s2, s3, s4, s6⟩, hz⟩ := hS
  refine ⟨⟨by rw [h 20 0 (by simp) (by simp), r1], by rw [h 20 0 (by simp) (by simp), r2], by rw [h 20 0 (by simp) (by simp), r3], ?_, fun i i0 i1 => ?_, fun q e q0 q1 e0 e1 => by rw [h 20 13 (by simp) (by simp)]; exact hH q e q0 q1 e0 e1, by funext y; rw [h _ _ (by simp) (by simp), h19], by funext y; rw [h _ _ (by omega) (by omega), hMa], by funext y; rw [h _ _ (by omega) (by omega), hMb]⟩, ⟨by rw [e22 _ (by simp), s2], by rw [e22 _ (by simp), s3], by rw [e22 _ (by simp)]; exact s4, fun x x0 x1 => by rw [h 22 6 (by simp) (by simp)]; exact s6 x x0 x1⟩, fun c c0 c1 => by rw [h 21 7 (by simp) (by simp), hz c c0 c1]⟩
  · unfold jTm at hT ⊢
    rw [h 21 0 (by simp) (by simp), h 21 4 (by simp) (by simp), h 21 5 (by simp) (by simp)]
    exact hT
  · have := hC i i0 i1
    unfold jCmp at this ⊢
    rw [h 20 9 (by simp) (by simp), h 20 10 (by simp) (by simp), h 20 11 (by simp) (by simp), h 20 12 (by simp) (by simp)]
    exact this
/-- after the likeness -/
theorem c_list {C M0 M : jM} {a b lv tm wg wn : Int} {R : Int → Int} (hL : jLV C) (hGa : jGood C a) (hGb : jGood C b) (hSa : jSr C a) (hK : jLk C M0 M a b lv tm wg R) :
    jCallP 11 151 [.inr (22, 0), .inl wn] M (fun r M' => r = M' 22 0 12 ∧ jLi C M' a b lv wg tm (wth C a b lv wg tm R) (prs C a R) wn (cP (hitN C a b lv wg tm (wth C a b lv wg tm R) (prs C a R)) ((10 : Int) ^ (C a 0 0).toNat).toNat) ∧ M' 22 0 11 = 0 ∧ jSe C M' a b lv tm wg ∧ ∀ x y, ¬ (x = 20 ∨ x = 21 ∨ x = 22) → M' x y = M x y) := by
  obtain ⟨⟨ha, hNa, hKa, hOa⟩, hEa, hHa, -, -⟩ := id hGa
  obtain ⟨⟨hb, hNb, hKb, hOb⟩, hEb, hHb, -, -⟩ := id hGb
  have b1 := hNa.1
  have b2 := hNb.1
  obtain ⟨hR, hS, k7, k8, k9, k11, -, -⟩ := hK
  refine jstart (by decide) rfl (fX5_list_0 ⟨Or.inr rfl, ?_⟩)
  generalize hM1 : jup (jup (jup M 22 0 11 1) 22 0 12 0) 22 0 13 wn = M1
  have f1 : ∀ x y, ¬ (x = 22 ∧ y = 0) → M1 x y = M x y := fun x y h => by rw [← hM1, jup_set, jset_ne h, jup_set, jset_ne h, jup_set, jset_ne h]
  have e11 : M1 22 0 11 = 1 := by rw [← hM1, jup_ne (by simp), jup_ne (by simp), jup_eq]
  have e12 : M1 22 0 12 = 0 := by rw [← hM1, jup_ne (by simp), jup_eq]
  have e13 : M1 22 0 13 = wn := by rw [← hM1, jup_eq]
  have eo : ∀ z, ¬ (z = 11 ∨ z = 12 ∨ z = 13) → M1 22 0 z = M 22 0 z := fun z h => by rw [← hM1, jup_ne (by omega), jup_ne (by omega), jup_ne (by omega)]
  refine jcq (c_open M1) (by decide) ?_
  rintro r2 M2 ⟨u1, u2, u3, u4⟩
  have hS2 : jSe C M2 a b lv tm wg := hS.fx ha hb (fun x y h h' => by rw [u4 x y (by omega), f1 x y (by omega)]) (fun z hz' => by rw [u3 z (by omega), eo z (by omega)])
  refine k_place hL hGa hGb hSa (jLst_ph (lv := lv) (wg := wg) (tm := tm) (W := wth C a b lv wg tm R) (P := prs C a R) (wn := wn) b2.2 hR.2.1) hS2 (by rw [u3 7 (by simp), eo 7 (by simp), k7]) u2 u1 ⟨by rw [u3 11 (by simp), e11]; decide, by rw [u3 8 (by simp), eo 8 (by simp), k8], by rw [u3 9 (by simp), eo 9 (by simp), k9], by rw [u3 13 (by simp), e13], Int.le_refl _, ?_⟩ ?_
  · have e : M2 22 0 12 = 0 := by rw [u3 12 (by simp), e12]
    unfold jLi
    rw [e]
    refine ⟨fun _ => rfl, fun _ => rfl, fun w0 => ⟨fun _ => rfl, fun z => ?_⟩⟩
    have : cP (hitN C a b lv wg tm (wth C a b lv wg tm R) (prs C a R)) (0 : Int).toNat = 0 := rfl
    rw [this] at z
    exfalso
    omega
  intro r3 M3 g1 g2 g3 g4
  obtain ⟨g11, g8, g9, g13, -, gl⟩ := g1
  have hS3 := hS2.fr ha hb g2
  generalize hM4 : jup M3 22 0 11 0 = M4
  have f4 : ∀ x y, ¬ (x = 22 ∧ y = 0) → M4 x y = M3 x y := fun x y h => by rw [← hM4, jup_set, jset_ne h]
  have e4 : ∀ z, ¬ z = 11 → M4 22 0 z = M3 22 0 z := fun z h => by rw [← hM4, jup_ne (by simp [h])]
  refine ⟨Or.inl rfl, rfl, ?_, by rw [← hM4, jup_eq], hS3.fx ha hb (fun x y h h' => f4 x y (by omega)) (fun z hz' => e4 z (by omega)), fun x y h => by rw [f4 x y (by omega), g2.1 x y (by omega), u4 x y (by omega), f1 x y (by omega)]⟩
  unfold jLi at gl ⊢
  rw [e4 12 (by simp), f4 22 11 (by simp)]
  exact gl
/-- whether two tales are the same -/
theorem c_isSame {C M : jM} {a b : Int} (hL : jLV C) (hGa : jGood C a) (hGb : jGood C b) (hSa : jSr C a) (h19 : M 19 = C 19) (hMa : M a = C a) (hMb : M b = C b) (hz : ∀ c, 0 ≤ c → c < 100 → M 21 7 c = 0) (h11 : M 22 0 11 = 0) :
    jCallP 11 154 [.inr (22, 0), .inr (a, 0), .inr (b, 0)] M (fun r M' => jBl r (∃ q, vld C a b q ∧ wth C a b 0 2 0 q = C a 0 0 + C a 0 1) ∧ M' 22 0 11 = 0 ∧ jSe C M' a b 0 0 2 ∧ ∀ x y, ¬ (x = 20 ∨ x = 21 ∨ x = 22) → M' x y = M x y) := by
  obtain ⟨⟨ha, hNa, hKa, hOa⟩, hEa, hHa, -, -⟩ := id hGa
  obtain ⟨⟨hb, hNb, hKb, hOb⟩, hEb, hHb, -, -⟩ := id hGb
  have b1 := hNa.1
  have t1 := hNa.2
  have b2 := hNb.1
  -- no worth is more than all
  have most : ∀ q, wth C a b 0 2 0 q ≤ C a 0 0 + C a 0 1 ∧ (wth C a b 0 2 0 q = C a 0 0 + C a 0 1 → prs C a q = C a 0 0) := fun q => by
    have w : ∀ n : Nat, wsum C a b 2 (ans C a b 0 2 0 q) n ≤ n := by
      intro n
      induction n with
      | zero => exact Int.le_refl _
      | succ n ih =>
        have : wsum C a b 2 (ans C a b 0 2 0 q) (n + 1) = wsum C a b 2 (ans C a b 0 2 0 q) n + gI C a b 2 n (ans C a b 0 2 0 q n) := rfl
        have g : gI C a b 2 n (ans C a b 0 2 0 q n) ≤ 1 := by
          unfold gI
          split
          · omega
          · rw [if_neg (by omega)]; omega
        omega
    have w1 := w (C a 0 1).toNat
    have w2 := cP_bd (mts C a b q) (C a 0 0).toNat
    have w3 : cP (mts C a b q) (C a 0 0).toNat ≤ prs C a q := cP_mono _ (fun x _ _ h => h.1)
    have w4 := cP_bd (fun x => 0 ≤ q x) (C a 0 0).toNat
    have e : srt C a b 2 q = cP (mts C a b q) (C a 0 0).toNat := by unfold srt; rw [if_neg (by omega)]
    unfold wth
    unfold prs at *
    rw [e]
    refine ⟨by omega, fun _ => by omega⟩
  refine jstart (by decide) rfl (fX5_isSame_0 ?_)
  refine jcq (c_prepare (C := C) hL hGa.1 hGb.1 (by omega) h19 hMa hMb hz) (by decide) ?_
  rintro r1 M1 ⟨hS, p7, p8, p9, p6, p11, pP, pf⟩
  have ea : M1 a = C a := by funext y; rw [pf a y (by omega), hMa]
  rw [ea, jwr_id (z := C a 0 0 + C a 0 1) (by omega) (by omega), jwr_id (z := C a 0 0 + C a 0 1 - 1) (by omega) (by omega), jup_ne (M := M1) (by omega), ea]
  refine ⟨ha, ha, ha, ?_⟩
  generalize hM2 : jup (jup M1 22 0 8 (C a 0 0 + C a 0 1 - 1)) 22 0 9 (C a 0 0) = M2
  have f2 : ∀ x y, ¬ (x = 22 ∧ y = 0) → M2 x y = M1 x y := fun x y h => by rw [← hM2, jup_set, jset_ne h, jup_set, jset_ne h]
  have e8 : M2 22 0 8 = C a 0 0 + C a 0 1 - 1 := by rw [← hM2, jup_ne (by simp), jup_eq]
  have e9 : M2 22 0 9 = C a 0 0 := by rw [← hM2, jup_eq]
  have eo : ∀ z, ¬ (z = 8 ∨ z = 9) → M2 22 0 z = M1 22 0 z := fun z h => by rw [← hM2, jup_ne (by omega), jup_ne (by omega)]
  refine k_place (tm := 0) hL hGa hGb hSa (jBst_ph (lv := 0) (wg := 2) (tm := 0) (w0 := C a 0 0 + C a 0 1 - 1) (p0 := C a 0 0) b2.2) (hS.fx ha hb (fun x y h h' => f2 x y (by omega)) (fun z hz' => eo z (by omega))) (by rw [eo 7 (by simp), p7]) (by rw [eo 6 (by simp), p6]) (fun x x0 x1 => by rw [f2 20 6 (by simp)]; exact pP x x0 x1) ⟨by rw [eo 11 (by simp), p11, h11], Or.inl ⟨e8, e9, fun q hv _ hn => ?_⟩⟩ ?_
  · have := (num_lt (q := q) (fun x => by rcases hv.1 x with e | e <;> omega) (C a 0 0).toNat).1
    omega
  intro r3 M3 g1 g2 g3 g4
  have lt : ∀ q, vld C a b q → num q (C a 0 0).toNat < 10 ^ (C a 0 0).toNat := fun q hv => (num_lt (fun x => by rcases hv.1 x with e | e <;> omega) _).2
  have hS3 : jSe C M3 a b 0 0 2 := (hS.fx ha hb (fun x y h h' => f2 x y (by omega)) (fun z hz' => eo z (by omega))).fr ha hb g2
  have fr : ∀ x y, ¬ (x = 20 ∨ x = 21 ∨ x = 22) → M3 x y = M x y := fun x y h => by rw [g2.1 x y (by omega), f2 x y (by omega), pf x y h]
  obtain ⟨g11, gg⟩ := g1
  have key : (M3 22 0 8 = C a 0 0 + C a 0 1) ↔ ∃ q, vld C a b q ∧ wth C a b 0 2 0 q = C a 0 0 + C a 0 1 := by
    rcases gg with ⟨h8, -, hn⟩ | ⟨R, ⟨r1, r2, r3, r4, r5⟩, -, h8, h9⟩
    · constructor
      · intro h; omega
      · rintro ⟨q, q1, q2⟩
        have m := (most q).2 q2
        have := hn q q1 (by have := spr_0 (C := C) (a := a) (b := b) (tm := 0) b1.1; omega) (lt q q1)
        unfold btr at this
        omega
    · constructor
      · intro h; exact ⟨R, r1, by omega⟩
      · intro _
        have := (most R).1
        have m := cP_bd (fun x => 0 ≤ R x) (C a 0 0).toNat
        have e : prs C a R = cP (fun x => 0 ≤ R x) (C a 0 0).toNat := rfl
        unfold btr at r4
        omega
  refine ⟨fun q => ⟨Or.inl rfl, Or.inr ⟨rfl, fun w => q (key.mpr w)⟩, g11, hS3, fr⟩, fun q => ⟨Or.inr rfl, Or.inl ⟨rfl, key.mp q⟩, g11, hS3, fr⟩⟩
