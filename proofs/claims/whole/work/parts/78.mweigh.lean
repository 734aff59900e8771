/-! the reference: tieAnswers, weigh -/
theorem m_tieAnswers {C M : jM} {a b lv e f : Int} {R A : Int → Int} (hG : gd C a b) (hM : mR C M a b) (hw : rw1 C a b R) (hR : mRow C M a R) (hA : mAns C M b A e) (he : 0 ≤ e ∧ e < C a 0 1) (hf : 0 ≤ f ∧ f < C b 0 1) (hlv : 0 ≤ lv ∧ lv < 3) :
    jCallP 2 73 [.inr (28, 0), .inl a, .inl e, .inl b, .inl f, .inl lv] M (fun r M' => jBl r (RA C a b lv 0 R (sLS A) (fun _ => False) e f) ∧ M' = M) := by
  have hG' := hG
  obtain ⟨hL, hGa, hGb, ha, hb⟩ := hG
  obtain ⟨rl, Ta, Tb⟩ := hM
  have na2 := hGa.1.2.1.2
  have nb2 := hGb.1.2.1.2
  have kA := hGa.1.2.2.1 e he.1 he.2
  have kB := hGb.1.2.2.1 f hf.1 hf.2
  obtain ⟨A0, A1, A2, A3, -⟩ := Ta.2.2.2 e he.1 he.2
  obtain ⟨B0, B1, B2, B3, -⟩ := Tb.2.2.2 f hf.1 hf.2
  have EcA := fun q q0 q1 => hGa.2.2.2.2 e q he.1 he.2 q0 q1
  have EcB := fun q q0 q1 => hGb.2.2.2.2 f q hf.1 hf.2 q0 q1
  have EsA := fun q q0 q1 => hGa.2.1 e q he.1 he.2 q0 q1
  have EsB := fun q q0 q1 => hGb.2.1 f q hf.1 hf.2 q0 q1
  generalize hk : C a 5 e = k at A0 kA EcA
  generalize hl : C b 5 f = l at B0 kB EcB
  generalize hI : 84 * a + 6 * e = I at A0 A1 A2 A3
  generalize hJ : 84 * b + 6 * f = J at B0 B1 B2 B3
  have wI : ∀ c, 0 ≤ c → c ≤ 3 → jwr (I + c) = I + c := fun c _ _ => jwr_id (by omega) (by omega)
  have wJ : ∀ c, 0 ≤ c → c ≤ 3 → jwr (J + c) = J + c := fun c _ _ => jwr_id (by omega) (by omega)
  have bI : ∀ c, 0 ≤ c → c ≤ 3 → 0 ≤ I + c ∧ I + c < jal 28 10 := fun c _ _ => by rw [jal_28_10]; omega
  have bJ : ∀ c, 0 ≤ c → c ≤ 3 → 0 ≤ J + c ∧ J + c < jal 28 10 := fun c _ _ => by rw [jal_28_10]; omega
  have bI0 : 0 ≤ I ∧ I < jal 28 10 := by rw [jal_28_10]; omega
  have bJ0 : 0 ≤ J ∧ J < jal 28 10 := by rw [jal_28_10]; omega
  have pk1 := (rl k kA.1 kA.2).1
  have pk2 := (rl k kA.1 kA.2).2.1
  have pl1 := (rl l kB.1 kB.2).1
  have pl2 := (rl l kB.1 kB.2).2.1
  obtain ⟨⟨c1, c3⟩, c2, ce, -⟩ := hL k kA.1 kA.2
  obtain ⟨-, d2, de, -⟩ := hL l kB.1 kB.2
  have bk : 0 ≤ k ∧ k < jal 28 1 := by rw [jal_28_1]; exact kA
  have bl : 0 ≤ l ∧ l < jal 28 1 := by rw [jal_28_1]; exact kB
  have bk2 : 0 ≤ k ∧ k < jbl 28 2 := by rw [jbl_28_2]; exact kA
  have bl2 : 0 ≤ l ∧ l < jbl 28 2 := by rw [jbl_28_2]; exact kB
  have fin0 : ¬ RA C a b lv 0 R (sLS A) (fun _ => False) e f → ((0 : Int) = 0 ∨ (0 : Int) = 1) ∧ jBl 0 (RA C a b lv 0 R (sLS A) (fun _ => False) e f) ∧ M = M := fun h => ⟨Or.inl rfl, Or.inr ⟨rfl, h⟩, rfl⟩
  have fin1 : RA C a b lv 0 R (sLS A) (fun _ => False) e f → ((1 : Int) = 0 ∨ (1 : Int) = 1) ∧ jBl 1 (RA C a b lv 0 R (sLS A) (fun _ => False) e f) ∧ M = M := fun h => ⟨Or.inr rfl, Or.inl ⟨rfl, h⟩, rfl⟩
  refine jstart (by decide) rfl (fX10_tieAnswers_0 ?_)
  refine jc (m_at M (t := a) (e := e) (by omega) (by omega)) (by decide) ?_
  refine jc (m_at M (t := b) (e := f) (by omega) (by omega)) (by decide) ?_
  rw [hI, hJ, A0, B0, pk1, pl1]
  refine ⟨bI0, bJ0, bk, bl, fun z => fin0 (fun h => ?_), fun z => ?_⟩
  · have := meet_ends hL kA kB (by have := h.1.2.2.1; rw [hk, hl] at this; exact this)
    exact z this
  refine jc (m_alikeAt hL rl kA kB (by omega)) (by decide) ⟨fun z2 => ?_, fun z2 => fin0 (fun h => ?_)⟩
  rotate_left
  · have h1 := h.1.2.2.1
    have h2 := h.1.2.2.2.1
    rw [hk, hl] at h1 h2
    unfold meetM at z2
    rw [if_pos ⟨h1, h2⟩] at z2
    omega
  have hcl : cld C a b lv 0 e f := by
    unfold meetM at z2
    by_cases u : 0 ≤ meet C k l ∧ meet C k l ≤ lv
    · exact ⟨hf.1, hf.2, by rw [hk, hl]; exact u.1, by rw [hk, hl]; exact u.2, fun q => absurd q (by decide)⟩
    · rw [if_neg u] at z2
      exact absurd z2 (by decide)
  -- a call at two places
  have call : ∀ p q, 0 ≤ p → p < C 19 1 k → 0 ≤ q → q < C 19 1 k → jCallP 0 70 [.inr (28, 0), .inl (jno (C a 6 (3 * e + p))), .inl (jno (C b 6 (3 * f + q)))] M (fun r M' => jBl r (EA C b R (sLS A) (fun _ => False) (C a 6 (3 * e + p)) (C b 6 (3 * f + q))) ∧ M' = M) := fun p q p0 p1 q0 q1 => by
    have h1 := EcA p p0 (by omega)
    have h2 := EcB q q0 (by omega)
    have h3 := EsA p p0 (by omega)
    have h4 := EsB q q0 (by omega)
    rw [jno_ge (by omega), jno_ge (by omega)]
    exact m_endAnswers (n := e) hG' hw hR hA (by omega) ⟨by omega, h3.2.1, h3.2.2⟩ ⟨by omega, h4.2.1⟩
  have c00 := call 0 0 (by omega) (by omega) (by omega) (by omega)
  rw [Int.add_zero, Int.add_zero] at c00
  generalize hST : (EA C b R (sLS A) (fun _ => False) (C a 6 (3 * e)) (C b 6 (3 * f)) ∧ (C a 6 (3 * e + 1) = -1 ∨ EA C b R (sLS A) (fun _ => False) (C a 6 (3 * e + 1)) (C b 6 (3 * f + 1))) ∧ (C a 6 (3 * e + 2) = -1 ∨ EA C b R (sLS A) (fun _ => False) (C a 6 (3 * e + 2)) (C b 6 (3 * f + 2)))) = ST
  generalize hTU : (evn C a b e f ∧ EA C b R (sLS A) (fun _ => False) (C a 6 (3 * e)) (C b 6 (3 * f + 1)) ∧ EA C b R (sLS A) (fun _ => False) (C a 6 (3 * e + 1)) (C b 6 (3 * f))) = TU
  have hRA : RA C a b lv 0 R (sLS A) (fun _ => False) e f ↔ (ST ∨ TU) := by
    unfold RA
    rw [hST, hTU]
    exact ⟨fun h => h.2, fun h => ⟨hcl, h⟩⟩
  have k260 : ∀ v s, (¬ v = 0 ↔ ST) → (¬ s = 0 ↔ TU) → jWP 2 73 260 [none, none, none, none, none, none, none, none, none, none, some (.inl v), none] [.inl s] M (fun r M' => jBl r (RA C a b lv 0 R (sLS A) (fun _ => False) e f) ∧ M' = M) := fun v s hv hs =>
    fX10_tieAnswers_260 ⟨fun w => fin1 (hRA.mpr (Or.inl (hv.mp w))), fun w => ⟨fun w2 => fin0 (fun h => (hRA.mp h).elim (fun q => hv.mpr q w) (fun q => hs.mpr q w2)), fun w2 => fin1 (hRA.mpr (Or.inr (hs.mp w2)))⟩⟩
  have k183 : ∀ v, (¬ v = 0 ↔ ST) → jWP 2 73 183 [some (.inr (28, 0)), none, none, none, none, none, some (.inl I), some (.inl J), some (.inl k), some (.inl l), none, none] [.inl v] M (fun r M' => jBl r (RA C a b lv 0 R (sLS A) (fun _ => False) e f) ∧ M' = M) := by
    intro v hv
    have no : ¬ TU → jWP 2 73 260 [none, none, none, none, none, none, none, none, none, none, some (.inl v), none] [.inl 0] M (fun r M' => jBl r (RA C a b lv 0 R (sLS A) (fun _ => False) e f) ∧ M' = M) := fun h => k260 v 0 hv ⟨fun q => absurd rfl q, fun q => absurd q h⟩
    have eev : evn C a b e f ↔ (¬ C 19 2 k = 0 ∧ ¬ C 19 2 l = 0) := by unfold evn; rw [hk, hl]
    refine fX10_tieAnswers_183 ⟨bk2, ?_⟩
    rw [pk2, pl2]
    refine ⟨fun w => no (fun h => by rw [← hTU, eev] at h; exact h.1.1 w), fun w => ⟨bl2, fun w2 => no (fun h => by rw [← hTU, eev] at h; exact h.1.2 w2), fun w2 => ?_⟩⟩
    have e2 : C 19 1 k = 2 := ce (by omega)
    have c01 := call 0 1 (by omega) (by omega) (by omega) (by omega)
    have c10 := call 1 0 (by omega) (by omega) (by omega) (by omega)
    rw [Int.add_zero] at c01 c10
    rw [wI 1 (by omega) (by omega), wJ 2 (by omega) (by omega), wI 2 (by omega) (by omega), wJ 1 (by omega) (by omega), A1, B2]
    refine ⟨bI 1 (by omega) (by omega), bJ 2 (by omega) (by omega), jcq c01 (by decide) ?_⟩
    rintro r1 M1 ⟨b1, rfl⟩
    refine ⟨fun w3 => no (fun h => by rw [← hTU] at h; exact (jBl_eq b1).mp w3 h.2.1), fun w3 => ?_⟩
    rw [A2, B1]
    refine ⟨bI 2 (by omega) (by omega), bJ 1 (by omega) (by omega), jcq c10 (by decide) ?_⟩
    rintro r2 M2 ⟨b2, rfl⟩
    exact ⟨fun w4 => no (fun h => by rw [← hTU] at h; exact (jBl_eq b2).mp w4 h.2.2), fun w4 => k260 v 1 hv ⟨fun _ => by rw [← hTU, eev]; exact ⟨⟨w, w2⟩, (jBl_ne b1).mp w3, (jBl_ne b2).mp w4⟩, fun _ => by decide⟩⟩
  have k135 : ∀ v, (¬ v = 0 ↔ (EA C b R (sLS A) (fun _ => False) (C a 6 (3 * e)) (C b 6 (3 * f)) ∧ (C a 6 (3 * e + 1) = -1 ∨ EA C b R (sLS A) (fun _ => False) (C a 6 (3 * e + 1)) (C b 6 (3 * f + 1))))) → jWP 2 73 135 [some (.inr (28, 0)), none, none, none, none, none, some (.inl I), some (.inl J), some (.inl k), some (.inl l), none, none] [.inl v] M (fun r M' => jBl r (RA C a b lv 0 R (sLS A) (fun _ => False) e f) ∧ M' = M) := by
    intro v hv
    refine fX10_tieAnswers_135 ⟨fun w => k183 0 ⟨fun q => absurd rfl q, fun q => by rw [← hST] at q; exact absurd w (hv.mpr ⟨q.1, q.2.1⟩)⟩, fun w => ⟨bk, ?_⟩⟩
    have h12 := hv.mp w
    rw [pk1, wI 3 (by omega) (by omega), wJ 3 (by omega) (by omega), A3, B3]
    refine ⟨fun w2 => k183 1 ⟨fun _ => ?_, fun _ => by decide⟩, fun w2 => ⟨bI 3 (by omega) (by omega), bJ 3 (by omega) (by omega), jcq (call 2 2 (by omega) (by omega) (by omega) (by omega)) (by decide) ?_⟩⟩
    · rw [← hST]
      exact ⟨h12.1, h12.2, Or.inl ((EcA 2 (by omega) (by omega)).mpr (by omega))⟩
    · rintro r1 M1 ⟨b1, rfl⟩
      refine ⟨fun w3 => k183 0 ⟨fun q => absurd rfl q, fun q => ?_⟩, fun w3 => k183 1 ⟨fun _ => ?_, fun _ => by decide⟩⟩
      · rw [← hST] at q
        rcases q.2.2 with q | q
        · have := (EcA 2 (by omega) (by omega)).mp q; omega
        · exact absurd q ((jBl_eq b1).mp w3)
      · rw [← hST]
        exact ⟨h12.1, h12.2, Or.inr ((jBl_ne b1).mp w3)⟩
  rw [wI 1 (by omega) (by omega), wJ 1 (by omega) (by omega), wI 2 (by omega) (by omega), wJ 2 (by omega) (by omega), A1, B1]
  refine ⟨bI 1 (by omega) (by omega), bJ 1 (by omega) (by omega), jcq c00 (by decide) ?_⟩
  rintro r1 M1 ⟨b1, rfl⟩
  refine ⟨fun w => k135 0 ⟨fun q => absurd rfl q, fun q => absurd q.1 ((jBl_eq b1).mp w)⟩, fun w => ⟨bk, ?_⟩⟩
  have h00 := (jBl_ne b1).mp w
  rw [pk1, A2, B2]
  refine ⟨fun w2 => k135 1 ⟨fun _ => ⟨h00, Or.inl ((EcA 1 (by omega) (by omega)).mpr (by omega))⟩, fun _ => by decide⟩, fun w2 => ⟨bI 2 (by omega) (by omega), bJ 2 (by omega) (by omega), jcq (call 1 1 (by omega) (by omega) (by omega) (by omega)) (by decide) ?_⟩⟩
  rintro r2 M2 ⟨b2, rfl⟩
  refine ⟨fun w3 => k135 0 ⟨fun q => absurd rfl q, fun q => ?_⟩, fun w3 => k135 1 ⟨fun _ => ⟨h00, Or.inr ((jBl_ne b2).mp w3)⟩, fun _ => by decide⟩⟩
  rcases q.2 with q | q
  · have := (EcA 1 (by omega) (by omega)).mp q; omega
  · exact absurd q ((jBl_eq b2).mp w3)
theorem ansF_wg1 (C : jM) (a b lv tm : Int) (p : Int → Int) : ∀ n : Nat, ansF C a b lv 1 tm p n = ansF C a b lv 0 tm p n
  | 0 => rfl
  | n + 1 => by
    have e : ∀ wg, ansF C a b lv wg tm p (n + 1) = jfu (ansF C a b lv wg tm p n) n (jfst (cand C a b lv wg tm p (ansF C a b lv wg tm p n) n) (C b 0 1).toNat) := fun _ => rfl
    rw [e, e, ansF_wg1 C a b lv tm p n]
    congr 1
    refine jfst_congr (fun j _ _ => ?_)
    have : cld C a b lv 1 n j ↔ cld C a b lv 0 n j := by
      unfold cld
      exact ⟨fun ⟨a, b, c, d, _⟩ => ⟨a, b, c, d, fun q => absurd q (by decide)⟩, fun ⟨a, b, c, d, _⟩ => ⟨a, b, c, d, fun q => absurd q (by decide)⟩⟩
    unfold cand RA
    rw [this]
theorem ans_wg1 (C : jM) (a b lv tm : Int) (p : Int → Int) : ans C a b lv 1 tm p = ans C a b lv 0 tm p := ansF_wg1 C a b lv tm p _
