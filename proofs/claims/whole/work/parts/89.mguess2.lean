/-! the reference: what is asked of a guess -/
theorem ovr_ge {C M : jM} {p A G : Int → Int} {n e : Int} (hS : mGs C M p A G n) (hn : n ≤ C 12 0 1) (h1 : e < 10 → e < C 12 0 0) (h2 : e < 10 + n) : -1 ≤ ovr p A G e := by
  unfold ovr
  by_cases u : e < 0
  · rw [if_pos u]; omega
  · rw [if_neg u]
    by_cases u2 : e < 10
    · rw [if_pos u2]; exact (hS.1 _ (by omega) (h1 u2)).2.1
    · rw [if_neg u2]
      have a2 := (hS.2.1 (e - 10) (by omega) (by omega)).2.1
      have g2 := (hS.2.2 (e - 10) (by omega) (by omega)).2.1
      split
      · split <;> omega
      · omega
theorem em_ov {x : Int} (h : -1 ≤ x) : em x (jno x) := by
  unfold em jno
  split <;> omega
theorem m_hasGuess {C M : jM} {p A G : Int → Int} {c T k : Int} (hk : kd C M) (hS : mGs C M p A G (C 12 0 1)) (hT : M 28 24 c = T) (h0 : 0 ≤ T) (h1 : T < C 12 0 1) (hc : 0 ≤ c ∧ c < 14) (hkk : k = -1 ∨ (isK k ∧ C 19 1 k = C 19 1 (C 12 5 T))) :
    jCallP 2 91 [.inr (28, 0), .inl c, .inl (jno k)] M (fun r M' => jBl r (¬ k = -1 ∧ ¬ fnd C 13 k (ovr p A G (C 12 6 (3 * T))) (ovr p A G (C 12 6 (3 * T + 1))) (ovr p A G (C 12 6 (3 * T + 2))) = -1) ∧ M' = M) := by
  obtain ⟨hL, hG, hG13, rl, T12, T13⟩ := hk
  have n2 := hG.1.2.1.2
  obtain ⟨-, q1, q2, q3, -⟩ := T12.2.2.2 T h0 h1
  have hEn := fun q q0 q1 => hG.2.1 T q h0 h1 q0 q1
  have hC := fun q q0 q1 => hG.2.2.2.2 T q h0 h1 q0 q1
  have ov := fun q q0 q1 => m_over (M := M) (n := C 12 0 1) hG hS (Int.le_refl _) (hEn q q0 q1).1 (hEn q q0 q1).2.1 (by have := (hEn q q0 q1).2.2; omega)
  have og := fun q q0 q1 => ovr_ge (n := C 12 0 1) hS (Int.le_refl _) (hEn q q0 q1).2.1 (by have := (hEn q q0 q1).2.2; omega)
  have o0 := ov 0 (by omega) (by omega)
  have g0 := og 0 (by omega) (by omega)
  have c0 := hC 0 (by omega) (by omega)
  rw [Int.add_zero] at o0 g0 c0
  have wI : ∀ c, 0 ≤ c → c ≤ 3 → jwr (84 * 12 + 6 * T + c) = 84 * 12 + 6 * T + c := fun c _ _ => jwr_id (by omega) (by omega)
  have bI : ∀ c, 0 ≤ c → c ≤ 3 → 0 ≤ 84 * 12 + 6 * T + c ∧ 84 * 12 + 6 * T + c < jal 28 10 := fun c _ _ => by rw [jal_28_10]; omega
  refine jstart (by decide) rfl (fX10_hasGuess_0 ⟨by rw [jal_28_24]; exact hc, ?_⟩)
  rw [hT]
  refine jc (m_at M (t := 12) (e := T) (by omega) (by omega)) (by decide) ⟨fun z => ⟨Or.inl rfl, Or.inr ⟨rfl, fun h => ?_⟩, rfl⟩, fun z => ?_⟩
  · have : -1 ≤ k := by rcases hkk with e | e <;> omega
    exact h.1 ((jno_lt this).mp z)
  have hk0 : isK k ∧ C 19 1 k = C 19 1 (C 12 5 T) := by
    rcases hkk with e | e
    · rw [e] at z; exact absurd z (by decide)
    · exact e
  rw [wI 1 (by omega) (by omega), wI 2 (by omega) (by omega), wI 3 (by omega) (by omega), q1]
  refine ⟨bI 1 (by omega) (by omega), jc o0 (by decide) ⟨bI 2 (by omega) (by omega), ?_⟩⟩
  rw [q2]
  refine jc (ov 1 (by omega) (by omega)) (by decide) ⟨bI 3 (by omega) (by omega), ?_⟩
  rw [q3]
  refine jc (ov 2 (by omega) (by omega)) (by decide) ?_
  rw [jno_ge (v := k) (by omega)]
  have none' : ∀ e, e = -1 → ovr p A G e = -1 := fun e h => by unfold ovr; rw [if_pos (by omega)]
  refine jc (m_tieWith (t := 13) hL rl T13 hG13 (by omega) hk0.1 (x := ovr p A G (C 12 6 (3 * T))) (y := ovr p A G (C 12 6 (3 * T + 1))) (z := ovr p A G (C 12 6 (3 * T + 2))) ⟨fun _ => em_ov g0, fun h => none' _ (c0.mpr (by omega))⟩ ⟨fun _ => em_ov (og 1 (by omega) (by omega)), fun h => none' _ ((hC 1 (by omega) (by omega)).mpr (by omega))⟩ ⟨fun _ => em_ov (og 2 (by omega) (by omega)), fun h => none' _ ((hC 2 (by omega) (by omega)).mpr (by omega))⟩) (by decide) ?_
  have fb := jfst_bd (mtie C 13 k (ovr p A G (C 12 6 (3 * T))) (ovr p A G (C 12 6 (3 * T + 1))) (ovr p A G (C 12 6 (3 * T + 2)))) (C 13 0 1).toNat
  refine ⟨fun z2 => ⟨Or.inl rfl, Or.inr ⟨rfl, fun h => h.2 ?_⟩, rfl⟩, fun z2 => ⟨Or.inr rfl, Or.inl ⟨rfl, by omega, fun h => ?_⟩, rfl⟩⟩
  · exact (jno_lt (show -1 ≤ fnd C 13 k _ _ _ from fb.1)).mp z2
  · rw [h] at z2
    exact absurd z2 (by decide)
theorem m_isAgainst {C M : jM} {p A G : Int → Int} {c T : Int} (hk : kd C M) (hS : mGs C M p A G (C 12 0 1)) (hT : M 28 24 c = T) (h0 : 0 ≤ T) (h1 : T < C 12 0 1) (hc : 0 ≤ c ∧ c < 14) :
    jCallP 3 92 [.inr (28, 0), .inl c] M (fun r M' => jBl r (agn C p A G T) ∧ M' = M) := by
  have hkk := hk
  obtain ⟨hL, hG, hG13, rl, T12, T13⟩ := hk
  have n2 := hG.1.2.1.2
  have q0 := (T12.2.2.2 T h0 h1).1
  have K := hG.1.2.2.1 T h0 h1
  have p4 := (rl _ K.1 K.2).2.2.2
  obtain ⟨-, -, -, -, lo, -, ls⟩ := hL _ K.1 K.2
  refine jstart (by decide) rfl (fX10_isAgainst_0 ⟨by rw [jal_28_24]; exact hc, ?_⟩)
  rw [hT]
  refine jc (m_at M (t := 12) (e := T) (by omega) (by omega)) (by decide) ?_
  rw [q0, p4]
  refine ⟨by rw [jal_28_10]; omega, by rw [jal_28_4]; exact K, jcq (m_hasGuess hkk hS hT h0 h1 hc ?_) (by decide) ?_⟩
  · by_cases u : C 19 4 (C 12 5 T) = -1
    · exact Or.inl u
    · exact Or.inr ⟨by omega, (ls (by omega)).1⟩
  · rintro r M' ⟨bl, rfl⟩
    exact ⟨(jBl_01 bl), bl, rfl⟩
theorem m_takeKept {C M : jM} {p A : Int → Int} (hk : kd C M) (hp : ∀ x, 0 ≤ x → x < C 12 0 0 → M 28 21 x = nd (p x) ∧ -1 ≤ p x ∧ p x < 6) (hA : ∀ i, 0 ≤ i → i < C 12 0 1 → M 28 22 i = jno (A i) ∧ -1 ≤ A i ∧ A i < 14) : jCallP 2 93 [.inr (28, 0)] M (fun _ M' => mGl C M' p A ∧ fS M M') := by
  have n1 := hk.2.1.1.2.1.1
  have n2 := hk.2.1.1.2.1.2
  have sc : ∀ N : jM, (∀ x y, ¬ (x = 28 ∧ (y = 11 ∨ y = 12)) → N x y = M x y) → fS M N := fun N f => ⟨fun x y h => f x y (by omega), fun y h => f 28 y (by omega), fun z h => by rw [f 28 0 (by simp)]⟩
  refine jstart (by decide) rfl (fX10_takeKept_0 ?_)
  have k2 : ∀ v, 0 ≤ v → v ≤ 14 → ∀ N : jM, (∀ x, 0 ≤ x → x < 6 → N 28 11 x = M 28 21 x) → (∀ x, 0 ≤ x → x < v → N 28 12 x = M 28 22 x) → (∀ x y, ¬ (x = 28 ∧ (y = 11 ∨ y = 12)) → N x y = M x y) → jWP 2 93 28 [some (.inr (28, 0)), some (.inl v)] [] N (fun _ M' => mGl C M' p A ∧ fS M M') := by
    refine jloop (e := 14) (fun N h1 h2 f => ?_) (fun v v0 v1 ih N h1 h2 f => ?_)
    · refine fX10_takeKept_28 ⟨fun _ => jcq (m_layGuesses (C := C) (p := p) (A := A) ((sc N f).kd hk) ⟨fun x x0 x1 => by rw [h1 x x0 (by omega)]; exact hp x x0 x1, fun i i0 i1 => by rw [h2 i i0 (by omega)]; exact hA i i0 i1, fun i i0 i1 => by omega⟩) (by decide) ?_, fun z => by exfalso; omega⟩
      rintro r M' ⟨h, fg⟩
      exact ⟨h, (sc N f).tr fg.s⟩
    · refine fX10_takeKept_28 ⟨fun z => by exfalso; omega, fun _ => ⟨⟨v0, by rw [jal_28_22]; exact v1⟩, ⟨v0, by rw [jal_28_12]; exact v1⟩, ?_⟩⟩
      rw [jwr_id (by omega) (by omega), f 28 22 (by simp)]
      refine ih _ (fun x x0 x1 => by rw [jup_ne (by simp)]; exact h1 x x0 x1) (fun x x0 x1 => ?_) (fun x y h => by rw [jup_set, jset_ne (by omega), f x y h])
      by_cases u : x = v
      · rw [u, jup_eq]
      · rw [jup_ne (by omega)]; exact h2 x x0 (by omega)
  have k1 : ∀ v, 0 ≤ v → v ≤ 6 → ∀ N : jM, (∀ x, 0 ≤ x → x < v → N 28 11 x = M 28 21 x) → (∀ x y, ¬ (x = 28 ∧ (y = 11 ∨ y = 12)) → N x y = M x y) → jWP 2 93 2 [some (.inr (28, 0)), some (.inl v)] [] N (fun _ M' => mGl C M' p A ∧ fS M M') := by
    refine jloop (e := 6) (fun N h1 f => ?_) (fun v v0 v1 ih N h1 f => ?_)
    · exact fX10_takeKept_2 ⟨fun _ => k2 0 (by omega) (by omega) N h1 (fun x x0 x1 => by omega) f, fun z => by exfalso; omega⟩
    · refine fX10_takeKept_2 ⟨fun z => by exfalso; omega, fun _ => ⟨⟨v0, by rw [jal_28_21]; exact v1⟩, ⟨v0, by rw [jal_28_11]; exact v1⟩, ?_⟩⟩
      rw [jwr_id (by omega) (by omega), f 28 21 (by simp)]
      refine ih _ (fun x x0 x1 => ?_) (fun x y h => by rw [jup_set, jset_ne (by omega), f x y h])
      by_cases u : x = v
      · rw [u, jup_eq]
      · rw [jup_ne (by omega)]; exact h1 x x0 (by omega)
  exact k1 0 (by omega) (by omega) M (fun x x0 x1 => by omega) (fun _ _ _ => rfl)
theorem Inv.kd {C M : jM} (h : Inv C) (hR : rel C M) : kd C M := ⟨h.L, h.G (by omega) (by omega), h.G (by omega) (by omega), hR.1, hR.2.1 12 (by omega) (by omega), hR.2.1 13 (by omega) (by omega)⟩
/-- the kept row and answers, for both -/
theorem kept_both {C M : jM} {R A : Int → Int} (hR : rel C M) (hz : ¬ C 23 0 0 = 0) (gl : jGl C C 24 23 R A) : (∀ x, 0 ≤ x → x < C 12 0 0 → M 28 21 x = nd (R x) ∧ -1 ≤ R x ∧ R x < 6) ∧ (∀ i, 0 ≤ i → i < C 12 0 1 → M 28 22 i = jno (A i) ∧ -1 ≤ A i ∧ A i < 14) := by
  obtain ⟨-, -, h21, h22⟩ := hR.2.2.2.1.2 hz
  obtain ⟨⟨-, g1, g2, -⟩, -⟩ := gl
  exact ⟨fun x x0 x1 => ⟨by rw [h21 x x0 x1, (g1 x x0 x1).1], (g1 x x0 x1).2⟩, fun i i0 i1 => ⟨by rw [h22 i i0 i1, (g2 i i0 i1).1], (g2 i i0 i1).2⟩⟩
theorem m_guess {C M C' : jM} {i r0 : Int} (hI : Inv C) (hR : rel C M) (hs : s_guess C i r0 C') : jCallP 3 94 [.inr (28, 0), .inl i] M (fun r M' => r = r0 ∧ fS M M') := by
  obtain ⟨hs, -⟩ := hs
  have h17 := hR.2.2.2.1.1
  refine jstart (by decide) rfl (fX10_guess_0 ⟨fun z => ?_, fun z => ⟨(jif_y hs (by rw [← h17]; exact z)).symm, fS_r M⟩⟩)
  rw [h17] at z
  have hs := jif_n hs z
  obtain ⟨-, -, R, A, hv, gl⟩ := hI.2.2.2.2.2.2.2 z
  obtain ⟨k1, k2⟩ := kept_both hR z gl
  refine jcq (m_takeKept (hI.kd hR) k1 k2) (by decide) ?_
  rintro r1 M1 ⟨⟨-, m2, m3⟩, f⟩
  obtain ⟨-, g2, g3⟩ := gl
  have bd := gS_bd C R A (C 12 0 1).toNat
  have n2 := (hI.N (t := 12) (by omega) (by omega)).2
  rw [m2]
  refine ⟨fun z2 => ?_, fun z2 => ⟨?_, f⟩⟩
  · rw [jwr_id (by omega) (by omega)]
    have hs := jif_n hs z2
    refine jc (m_in M1 i 0 _) (by decide) ⟨fun q => ⟨(jif_n hs (fun h => jite_eq.mp q (by omega))).symm, f⟩, fun q => ?_⟩
    have hi := jite_ne.mp q
    obtain ⟨T, T0, T1, eT⟩ := bd.2.2.2.1 i (by omega) (by omega)
    have hs := jif_y hs (by omega)
    have e1 := g3 T T0 (by omega) (by omega)
    have e2 := m3 T T0 (by omega) (by omega)
    rw [eT] at e1 e2
    exact ⟨by rw [jal_28_24]; omega, by rw [e2, hs, e1], f⟩
  · rw [jif_y hs z2, g2]
theorem m_ofGuess {C M C' : jM} {R A : Int → Int} {i k r0 : Int} (hI : Inv C) (hR : rel C M) (hgl : ¬ C 23 0 0 = 0 → jGl C C 24 23 R A) (hs : s_ofGuess C R A i k r0 C') : jCallP 4 95 [.inr (28, 0), .inl i, .inl k] M (fun r M' => r = r0 ∧ fS M M') := by
  obtain ⟨hs, -⟩ := hs
  have h17 := hR.2.2.2.1.1
  refine jstart (by decide) rfl (fX10_ofGuess_0 ⟨fun z => ?_, fun z => ⟨(jif_y hs (by rw [← h17]; exact z)).symm, fS_r M⟩⟩)
  rw [h17] at z
  have hs := jif_n hs z
  have gl := hgl z
  obtain ⟨k1, k2⟩ := kept_both hR z gl
  refine jc (m_in M k 0 4) (by decide) ⟨fun q => ?_, fun q => ⟨(jif_n hs (jite_eq.mp q)).symm, fS_r M⟩⟩
  have hk := jite_ne.mp q
  have hs := jif_y hs hk
  refine jcq (m_takeKept (hI.kd hR) k1 k2) (by decide) ?_
  rintro r1 M1 ⟨⟨m1, m2, m3⟩, f⟩
  have bd := gS_bd C R A (C 12 0 1).toNat
  have hkd := f.kd (hI.kd hR)
  have n2 := (hI.N (t := 12) (by omega) (by omega)).2
  rw [m2, jwr_id (by omega) (by omega)]
  refine jc (m_in M1 i 0 _) (by decide) ⟨fun q => ?_, fun q => ⟨(jif_n hs (fun h => jite_eq.mp q (by omega))).symm, f⟩⟩
  have hi := jite_ne.mp q
  obtain ⟨T, T0, T1, eT⟩ := bd.2.2.2.1 i (by omega) (by omega)
  obtain ⟨s1, s2, s3⟩ := jif_y hs (show 0 ≤ i ∧ i < (gS C R A (C 12 0 1).toNat).1 by omega) T T0 (by omega) eT
  have e2 := m3 T T0 (by omega) (by omega)
  rw [eT] at e2
  have hG := hkd.2.1
  have K := hG.1.2.2.1 T T0 (by omega)
  obtain ⟨q0, q1, q2, q3, -⟩ := hkd.2.2.2.2.1.2.2.2 T T0 (by omega)
  refine ⟨by rw [jal_28_24]; omega, ?_⟩
  rw [e2]
  refine jc (m_at M1 (t := 12) (e := T) (by omega) (by omega)) (by decide) ⟨fun w => ⟨fun w2 => ?_, fun w2 => ?_⟩, fun w => ?_⟩
  · have s3 := s3 (by omega)
    refine jcq (m_isAgainst hkd m1 e2 T0 (by omega) (by omega)) (by decide) ?_
    rintro r5 M5 ⟨bl, rfl⟩
    refine ⟨fun w3 => ⟨?_, f⟩, fun w3 => ⟨?_, f⟩⟩
    · rcases s3 with s3 | s3
      · exact absurd s3.2 ((jBl_eq bl).mp w3)
      · exact s3.1.symm
    · rcases s3 with s3 | s3
      · exact s3.1.symm
      · exact absurd ((jBl_ne bl).mp w3) s3.2
  · have s2 := s2 w2
    have hg := m_hasGuess (k := C 12 5 T) hkd m1 e2 T0 (by omega) (by omega) (Or.inr ⟨K, rfl⟩)
    rw [jno_ge K.1] at hg
    rw [q0]
    refine ⟨by rw [jal_28_10]; omega, jcq hg (by decide) ?_⟩
    rintro r5 M5 ⟨bl, rfl⟩
    refine ⟨fun w3 => ⟨?_, f⟩, fun w3 => ⟨?_, f⟩⟩
    · rcases s2 with s2 | s2
      · exact absurd ⟨by omega, s2.2⟩ ((jBl_eq bl).mp w3)
      · exact s2.1.symm
    · rcases s2 with s2 | s2
      · exact s2.1.symm
      · exact absurd ((jBl_ne bl).mp w3).2 s2.2
  · have s1 := s1 w
    have hen := hG.2.1 T k T0 (by omega) (by omega) w
    have sq : M1 28 10 (84 * 12 + 6 * T + 1 + k) = jno (C 12 6 (3 * T + k)) := by
      have cs : k = 0 ∨ k = 1 ∨ k = 2 := by omega
      rcases cs with e | e | e
      · rw [e, Int.add_zero, Int.add_zero, q1]
      · rw [e, show (84 * 12 + 6 * T + 1 + 1 : Int) = 84 * 12 + 6 * T + 2 by omega, q2]
      · rw [e, show (84 * 12 + 6 * T + 1 + 2 : Int) = 84 * 12 + 6 * T + 3 by omega, q3]
    rw [jwr_id (z := 84 * 12 + 6 * T + 1) (by omega) (by omega), jwr_id (z := 84 * 12 + 6 * T + 1 + k) (by omega) (by omega), sq]
    refine ⟨by rw [jal_28_10]; omega, jc (m_over (n := C 12 0 1) hG m1 (Int.le_refl _) hen.1 hen.2.1 (by omega)) (by decide) ⟨?_, f⟩⟩
    rw [s1]
    rfl
