/-! the reference: inMade -/
/-- won: what is put of the second tale's ties -/
def mWon (M D : jM) (F : Int → Int) (t : Int) (n : Int) : Prop := ∀ j : Int, 0 ≤ j → j < n → (cmeN F t j → M 28 36 j = -6) ∧ (¬ cmeN F t j → M 28 36 j = jno (D 26 7 j))
theorem m_inMade {C M W D D1 : jM} {a e n : Int} {R1 R2 F A : Int → Int} (hG : jGood C a) (ha : 0 ≤ a ∧ a < 14) (hT : rT C M a) (h33 : ∀ x, 0 ≤ x → x < C a 0 0 → M 28 33 x = nd (R1 x)) (h11 : ∀ x, 0 ≤ x → x < C a 0 0 → M 28 11 x = nd (R2 x)) (hR1 : ∀ x, -1 ≤ R1 x ∧ R1 x < 6) (hR2 : ∀ x, -1 ≤ R2 x ∧ R2 x < 6)
    (h34 : ∀ i, 0 ≤ i → i < C a 0 1 → M 28 34 i = jno (F i) ∧ -1 ≤ F i) (h12 : ∀ i, 0 ≤ i → i < C a 0 1 → M 28 12 i = jno (A i) ∧ -1 ≤ A i ∧ A i < 14) (h35 : ∀ k, 0 ≤ k → (∃ i, (0 ≤ i ∧ i < C a 0 1) ∧ A i = k) → M 28 35 k = jno (D1 26 7 k) ∧ -1 ≤ D1 26 7 k ∧ D1 26 7 k < 14)
    (iF : inj F (C a 0 1)) (bX : brX W R1 R2 (C a 0 0)) (bT : brT W F A (D1 26 7) (C a 0 1)) (iR : inj R1 (C a 0 0))
    (d6 : D 26 6 = W 26 6) (d7 : ∀ j : Int, 0 ≤ j → j < 14 → cmeN F (C a 0 1) j → D 26 7 j = W 26 7 j) (dB : ∀ j : Int, 0 ≤ j → j < 14 → -1 ≤ D 26 7 j ∧ D 26 7 j < 14) (hw : mWon M D F (C a 0 1) n) (hn : n ≤ 14) (he : 0 ≤ e ∧ (e < 10 → e < 6) ∧ e < 10 + n) :
    jCallP 0 107 [.inr (28, 0), .inl a, .inl e] M (fun r M' => r = jno (nE D e) ∧ M' = M) := by
  have n1 := hG.1.2.1.1
  have n2 := hG.1.2.1.2
  have b6 : 0 ≤ a ∧ a < jal 28 6 := by rw [jal_28_6]; omega
  have b9 : 0 ≤ a ∧ a < jal 28 9 := by rw [jal_28_9]; omega
  refine jstart (by decide) rfl (fX10_inMade_0 ⟨fun z => ?_, fun z => ?_⟩)
  · have w : jwr (e - 10) = e - 10 := jwr_id (by omega) (by omega)
    rw [w]
    generalize ht : e - 10 = t at *
    have t0 : 0 ≤ t ∧ t < n := by omega
    have b36 : 0 ≤ t ∧ t < jal 28 36 := by rw [jal_28_36]; omega
    have eE : nE D e = if ¬ D 26 7 t = -1 then 10 + D 26 7 t else -1 := by
      unfold nE
      rw [if_neg (by omega), if_neg (by omega), ht]
      by_cases u : D 26 7 t = -1
      · rw [if_neg (fun q => q.2 u), if_neg (fun q => q u)]
      · rw [if_pos ⟨by omega, u⟩, if_pos u]
    obtain ⟨w1, w2⟩ := hw t t0.1 t0.2
    have db := dB t t0.1 (by omega)
    refine ⟨b36, fun z2 => ?_, fun z2 => ?_⟩
    · have key : ∀ i, 0 ≤ i → i ≤ C a 0 1 → (∀ k, 0 ≤ k → k < i → F k = t → 0 ≤ A k → D1 26 7 (A k) = -1) → jWP 0 107 82 [some (.inr (28, 0)), some (.inl a), some (.inl e), some (.inl i)] [] M (fun r M' => r = jno (nE D e) ∧ M' = M) := by
        refine jloop (e := C a 0 1) (fun hno => ?_) (fun i i0 i1 ih hno => ?_)
        · refine fX10_inMade_82 ⟨b9, fun _ => ⟨?_, rfl⟩, fun q => by rw [hT.2.1] at q; exfalso; omega⟩
          have dn : D 26 7 t = -1 := by
            by_cases u : cmeN F (C a 0 1) t
            · rw [d7 t t0.1 (by omega) u]
              by_cases v : ∃ k, 0 ≤ k ∧ k < C a 0 1 ∧ 0 ≤ A k ∧ F k = t
              · obtain ⟨k, k0, k1, k2, k3⟩ := v
                have := bT.1 k k0 k1 (by omega) k2
                rw [k3] at this
                rw [this]
                exact hno k k0 k1 k3 k2
              · exact bT.2 t t0.1 (by omega) (fun k k0 k1 k2 k3 => v ⟨k, k0, k1, k2, k3⟩)
            · rw [w2 u] at z2
              exact (jno_lt db.1).mp z2
          rw [eE, if_neg (fun q => q dn)]
          rfl
        · obtain ⟨f1, f2⟩ := h34 i i0 i1
          obtain ⟨a1, a2, a3⟩ := h12 i i0 i1
          have b34 : 0 ≤ i ∧ i < jal 28 34 := by rw [jal_28_34]; omega
          have b12 : 0 ≤ i ∧ i < jal 28 12 := by rw [jal_28_12]; omega
          have nx : (F i = t → 0 ≤ A i → D1 26 7 (A i) = -1) → jWP 0 107 82 [some (.inr (28, 0)), some (.inl a), some (.inl e), some (.inl (jwr (i + 1)))] [] M (fun r M' => r = jno (nE D e) ∧ M' = M) := fun h => by
            rw [jwr_id (by omega) (by omega)]
            refine ih (fun k k0 k1 h1 h2 => ?_)
            by_cases u : k = i
            · rw [u] at h1 h2 ⊢; exact h h1 h2
            · exact hno k k0 (by omega) h1 h2
          have eF : jno (F i) = t ↔ F i = t := by unfold jno; split <;> omega
          refine fX10_inMade_82 ⟨b9, fun q => by rw [hT.2.1] at q; exfalso; omega, fun _ => ⟨b34, ?_⟩⟩
          rw [ht, w, f1, a1, eF]
          refine ⟨fun z3 => nx (fun h => absurd h z3), fun z3 => ⟨b12, fun z4 => nx (fun _ h => by have := (jno_lt a2).mp z4; omega), fun z4 => ?_⟩⟩
          have A0 : 0 ≤ A i := by
            apply Classical.byContradiction
            intro q
            rw [jno_neg (by omega)] at z4
            exact absurd z4 (by decide)
          obtain ⟨l1, l2, l3⟩ := h35 (A i) A0 ⟨i, ⟨i0, i1⟩, rfl⟩
          have b35 : 0 ≤ A i ∧ A i < jal 28 35 := by rw [jal_28_35]; omega
          rw [jno_ge A0, l1]
          refine ⟨b12, b35, fun z5 => nx (fun _ _ => (jno_lt l2).mp z5), fun z5 => ⟨b12, b35, ?_, rfl⟩⟩
          have L0 : 0 ≤ D1 26 7 (A i) := by
            apply Classical.byContradiction
            intro q
            rw [jno_neg (by omega)] at z5
            exact absurd z5 (by decide)
          have hc : cmeN F (C a 0 1) t := ⟨i, i0, i1, by omega, z3⟩
          have e1 := bT.1 i i0 i1 (by omega) A0
          rw [z3] at e1
          rw [jno_ge L0, jwr_id (by omega) (by omega), eE, d7 t t0.1 (by omega) hc, e1, if_pos (by omega), jno_ge (by omega)]
      exact key 0 (by omega) n2.1 (fun k k0 k1 => by omega)
    · have hc : ¬ cmeN F (C a 0 1) t := fun q => by rw [w1 q] at z2; exact absurd z2 (by decide)
      rw [w2 hc] at z2 ⊢
      have d0 : 0 ≤ D 26 7 t := by
        apply Classical.byContradiction
        intro q
        rw [jno_neg (by omega)] at z2
        exact absurd z2 (by decide)
      rw [jno_ge d0, jwr_id (by omega) (by omega), eE, if_pos (by omega), jno_ge (by omega)]
      exact ⟨b36, rfl, rfl⟩
  · have e6 := he.2.1 z
    have eE : nE D e = W 26 6 e := by
      unfold nE
      rw [if_neg (by omega), if_pos e6, d6]
    have key : ∀ i, 0 ≤ i → i ≤ C a 0 0 → (∀ k, 0 ≤ k → k < i → R1 k = e → R2 k = -1) → jWP 0 107 8 [some (.inr (28, 0)), some (.inl a), some (.inl e), some (.inl i)] [] M (fun r M' => r = jno (nE D e) ∧ M' = M) := by
      refine jloop (e := C a 0 0) (fun hno => ?_) (fun i i0 i1 ih hno => ?_)
      · refine fX10_inMade_8 ⟨b6, fun _ => ⟨?_, rfl⟩, fun q => by rw [hT.1] at q; exfalso; omega⟩
        have : W 26 6 e = -1 := by
          by_cases v : ∃ k, 0 ≤ k ∧ k < C a 0 0 ∧ R1 k = e
          · obtain ⟨k, k0, k1, k2⟩ := v
            have := bX.1 k k0 k1 (by omega)
            rw [k2] at this
            rw [this]
            exact hno k k0 k1 k2
          · exact bX.2 e he.1 e6 (fun k k0 k1 k2 => v ⟨k, k0, k1, k2⟩)
        rw [eE, this]
        rfl
      · have r1 := hR1 i
        have r2 := hR2 i
        have b33 : 0 ≤ i ∧ i < jal 28 33 := by rw [jal_28_33]; omega
        have b11 : 0 ≤ i ∧ i < jal 28 11 := by rw [jal_28_11]; omega
        have nx : (R1 i = e → R2 i = -1) → jWP 0 107 8 [some (.inr (28, 0)), some (.inl a), some (.inl e), some (.inl (jwr (i + 1)))] [] M (fun r M' => r = jno (nE D e) ∧ M' = M) := fun h => by
          rw [jwr_id (by omega) (by omega)]
          refine ih (fun k k0 k1 h1 => ?_)
          by_cases u : k = i
          · rw [u] at h1 ⊢; exact h h1
          · exact hno k k0 (by omega) h1
        have e1 : nd (R1 i) = e ↔ R1 i = e := by unfold nd; split <;> omega
        refine fX10_inMade_8 ⟨b6, fun q => by rw [hT.1] at q; exfalso; omega, fun _ => ⟨b33, ?_⟩⟩
        rw [h33 i i0 i1, h11 i i0 i1, e1]
        refine ⟨fun z3 => nx (fun h => absurd h z3), fun z3 => ⟨b11, fun z4 => nx (fun _ => ?_), fun z4 => ⟨b11, ?_, rfl⟩⟩⟩
        · have := (nd_lt (v := R2 i) r2.2).mp z4; omega
        · have y0 : 0 ≤ R2 i := by
            apply Classical.byContradiction
            intro q
            have := (nd_lt (v := R2 i) r2.2).mpr (by omega)
            omega
          have := bX.1 i i0 i1 (by omega)
          rw [z3] at this
          rw [eE, this, jno_ge y0]
          unfold nd
          rw [if_neg (by omega)]
    exact key 0 (by omega) n1.1 (fun k k0 k1 => by omega)
