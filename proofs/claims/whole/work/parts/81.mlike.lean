/-! the reference: which rows are weighed -/
theorem m_pairsOfRow {C M : jM} {a b : Int} {R : Int → Int} (hG : gd C a b) (hM : rT C M a) (hw : rw1 C a b R) (hR : mRow C M a R) : jCallP 0 75 [.inr (28, 0), .inl a] M (fun r M' => r = prs C a R ∧ M' = M) := by
  obtain ⟨-, hGa, hGb, ha, hb⟩ := hG
  have na1 := hGa.1.2.1.1
  have nb1 := hGb.1.2.1.1
  refine jstart (by decide) rfl (fX10_pairsOfRow_0 ?_)
  have key : ∀ j n : Nat, ((n + j : Nat) : Int) = C a 0 0 → jWP 0 75 4 [some (.inr (28, 0)), some (.inl a), some (.inl (cP (fun x => 0 ≤ R x) n)), some (.inl (n : Int))] [] M (fun r M' => r = prs C a R ∧ M' = M) := by
    intro j
    induction j with
    | zero =>
      intro n hn
      refine fX10_pairsOfRow_4 ⟨by rw [jal_28_6]; omega, fun _ => ⟨?_, rfl⟩, fun z => by rw [hM.1] at z; exfalso; omega⟩
      unfold prs
      rw [show (C a 0 0).toNat = n by omega]
    | succ j ih =>
      intro n hn
      have hi := ih (n + 1) (by omega)
      have en : (n : Int) + 1 = ((n + 1 : Nat) : Int) := by omega
      have c := cP_bd (fun x => 0 ≤ R x) n
      have wn := hw n
      have nl := nd_lt (v := R n) (by omega)
      refine fX10_pairsOfRow_4 ⟨by rw [jal_28_6]; omega, fun z => by rw [hM.1] at z; exfalso; omega, fun _ => ⟨⟨by omega, by rw [jal_28_11]; omega⟩, ?_⟩⟩
      rw [hR n (by omega) (by omega)]
      refine ⟨fun z => ?_, fun z => ?_⟩
      all_goals rw [jwr_id (by omega) (by omega), jwr_id (by omega) (by omega), en]
      · rw [Int.add_zero]
        rwa [cP_no (P := fun x => 0 ≤ R x) (by omega)] at hi
      · rwa [cP_yes (P := fun x => 0 ≤ R x) (by omega)] at hi
  exact key (C a 0 0).toNat 0 (by omega)
def injR (R : Int → Int) : Prop := ∀ x y, 0 ≤ R x → R x = R y → x = y
theorem m_isPairing {C M : jM} {a b : Int} {R : Int → Int} (hG : gd C a b) (hM : rT C M a) (hw : rw1 C a b R) (hR : mRow C M a R) : jCallP 0 76 [.inr (28, 0), .inl a] M (fun r M' => jBl r (vld C a b R) ∧ M' = M) := by
  obtain ⟨-, hGa, hGb, ha, hb⟩ := hG
  have na1 := hGa.1.2.1.1
  have nb1 := hGb.1.2.1.1
  refine jstart (by decide) rfl (fX10_isPairing_0 ?_)
  have key : ∀ i, 0 ≤ i → i ≤ C a 0 0 → ∀ v L, (v = 0 ∨ v = 1) → (v = 1 ↔ ∀ x y, 0 ≤ x → x < i → 0 ≤ y → y < i → 0 ≤ R x → R x = R y → x = y) → isM L (fun j => ∃ x, (0 ≤ x ∧ x < i) ∧ R x = j ∧ 0 ≤ j) → jWP 0 76 7 [some (.inr (28, 0)), some (.inl a), some (.inl L), some (.inl v), some (.inl i)] [] M (fun r M' => jBl r (vld C a b R) ∧ M' = M) := by
    refine jloop (e := C a 0 0) (fun v L hv h hL => ?_) (fun i i0 i1 ih v L hv h hL => ?_)
    · refine fX10_isPairing_7 ⟨by rw [jal_28_6]; omega, fun _ => ⟨hv, ?_, rfl⟩, fun z => by rw [hM.1] at z; exfalso; omega⟩
      rcases hv with e | e
      · refine Or.inr ⟨e, fun q => ?_⟩
        have := h.mpr (fun x y _ _ _ _ hx hxy => q.2 x y hx hxy)
        omega
      · refine Or.inl ⟨e, hw, fun x y hx hxy => ?_⟩
        have wx := hw x
        have wy := hw y
        exact h.mp e x y (by omega) (by omega) (by omega) (by omega) hx hxy
    · have b11 : 0 ≤ i ∧ i < jal 28 11 := by rw [jal_28_11]; omega
      have wi := hw i
      have ndi : nd (R i) = 9 ↔ R i = -1 := by unfold nd; split <;> omega
      refine fX10_isPairing_7 ⟨by rw [jal_28_6]; omega, fun z => by rw [hM.1] at z; exfalso; omega, fun _ => ⟨fun z => ⟨hv, Or.inr ⟨z, fun q => ?_⟩, rfl⟩, fun z => ⟨b11, ?_⟩⟩⟩
      · have := h.mpr (fun x y _ _ _ _ hx hxy => q.2 x y hx hxy)
        omega
      have hv1 := h.mp (by omega)
      -- after the test
      have k53 : ∀ s, (s = 0 ∨ s = 1) → (s = 1 ↔ (0 ≤ R i → ∀ x, 0 ≤ x → x < i → ¬ R x = R i)) → jWP 0 76 53 [some (.inr (28, 0)), some (.inl a), some (.inl L), none, some (.inl i)] [.inl s] M (fun r M' => jBl r (vld C a b R) ∧ M' = M) := by
        intro s hs hh
        have hs' : s = 1 ↔ ∀ x y, 0 ≤ x → x < i + 1 → 0 ≤ y → y < i + 1 → 0 ≤ R x → R x = R y → x = y := by
          rw [hh]
          constructor
          · intro q x y x0 x1 y0 y1 hx hxy
            by_cases e1 : x = i
            · by_cases e2 : y = i
              · omega
              · rw [e1] at hx hxy; exact absurd hxy.symm (q hx y y0 (by omega))
            · by_cases e2 : y = i
              · rw [e2] at hxy; exact absurd hxy (q (by omega) x x0 (by omega))
              · exact hv1 x y x0 (by omega) y0 (by omega) hx hxy
          · intro q hi x x0 x1 e
            have := q x i x0 (by omega) i0 (by omega) (by omega) e
            omega
        refine fX10_isPairing_53 ⟨b11, ?_⟩
        rw [hR i i0 i1, jwr_id (by omega) (by omega)]
        refine ⟨fun z2 => ⟨b11, ?_⟩, fun z2 => ?_⟩
        · have hi0 : 0 ≤ R i := by
            have : ¬ R i = -1 := fun q => z2 (ndi.mpr q)
            omega
          have nde : nd (R i) = R i := by unfold nd; rw [if_neg (by omega)]
          rw [nde]
          refine ih s _ hs hs' ((hL.or (isM_bit (k := R i) (by omega) (by omega))).congr (fun j j0 j1 => ⟨fun q => ?_, fun ⟨x, xx, x1, x2⟩ => ?_⟩))
          · rcases q with ⟨x, xx, x1, x2⟩ | q
            · exact ⟨x, by omega, x1, x2⟩
            · exact ⟨i, by omega, q.symm, j0⟩
          · by_cases u : x = i
            · exact Or.inr (by rw [← x1, u])
            · exact Or.inl ⟨x, by omega, x1, x2⟩
        · have hi0 := ndi.mp z2
          refine ih s _ hs hs' ((hL.or isM_0).congr (fun j j0 j1 => ⟨fun q => ?_, fun ⟨x, xx, x1, x2⟩ => ?_⟩))
          · rcases q with ⟨x, xx, x1, x2⟩ | q
            · exact ⟨x, by omega, x1, x2⟩
            · exact q.elim
          · by_cases u : x = i
            · rw [u] at x1; omega
            · exact Or.inl ⟨x, by omega, x1, x2⟩
      rw [hR i i0 i1]
      refine ⟨fun z2 => k53 1 (Or.inr rfl) ⟨fun _ q => by have := ndi.mp z2; omega, fun _ => rfl⟩, fun z2 => ⟨b11, ?_⟩⟩
      have hi0 : 0 ≤ R i := by
        have : ¬ R i = -1 := fun q => z2 (ndi.mpr q)
        omega
      have nde : nd (R i) = R i := by unfold nd; rw [if_neg (by omega)]
      rw [nde, hL.test (by omega) (by omega)]
      refine ⟨fun z3 => k53 0 (Or.inl rfl) ⟨fun q => absurd q (by decide), fun q => ?_⟩, fun z3 => k53 1 (Or.inr rfl) ⟨fun _ _ x x0 x1 e => z3 ⟨x, ⟨x0, x1⟩, e, hi0⟩, fun _ => rfl⟩⟩
      exact absurd (fun ⟨x, xx, x1, x2⟩ => q hi0 x xx.1 xx.2 x1) z3
  exact key 0 (by omega) (by omega) 1 0 (Or.inr rfl) ⟨fun _ x y x0 x1 => by omega, fun _ => rfl⟩ (isM_0.congr (fun j _ _ => ⟨fun q => q.elim, fun ⟨x, xx, _⟩ => by omega⟩))
def ful (C : jM) (a b : Int) : Int := if C a 0 0 < C b 0 0 then C a 0 0 else C b 0 0
def wgd (C : jM) (a b tm : Int) (q : Int → Int) : Prop := vld C a b q ∧ (tm = 0 → prs C a q = ful C a b)
theorem m_isWeighed {C M : jM} {a b tm : Int} {R : Int → Int} (hG : gd C a b) (hM : mR C M a b) (hw : rw1 C a b R) (hR : mRow C M a R) : jCallP 1 79 [.inr (28, 0), .inl a, .inl b, .inl tm] M (fun r M' => jBl r (wgd C a b tm R) ∧ M' = M) := by
  have hG' := hG
  obtain ⟨-, hGa, hGb, ha, hb⟩ := hG
  have b6a : 0 ≤ a ∧ a < jal 28 6 := by rw [jal_28_6]; omega
  have b6b : 0 ≤ b ∧ b < jal 28 6 := by rw [jal_28_6]; omega
  have k30 : ∀ s, s = ful C a b → jWP 1 79 30 [some (.inr (28, 0)), some (.inl a), none, some (.inl tm), none] [.inl s] M (fun r M' => jBl r (wgd C a b tm R) ∧ M' = M) := by
    intro s hs
    refine fX10_isWeighed_30 (jcq (m_isPairing hG' hM.2.1 hw hR) (by decide) ?_)
    rintro r1 M1 ⟨b1, rfl⟩
    refine ⟨fun z => ⟨Or.inl rfl, Or.inr ⟨rfl, fun h => (jBl_eq b1).mp z h.1⟩, rfl⟩, fun z => ⟨fun z2 => ⟨Or.inr rfl, Or.inl ⟨rfl, (jBl_ne b1).mp z, fun q => absurd q z2⟩, rfl⟩, fun z2 => jc (m_pairsOfRow hG' hM.2.1 hw hR) (by decide) ⟨fun z3 => ⟨Or.inl rfl, Or.inr ⟨rfl, fun h => z3 (by rw [hs]; exact h.2 z2)⟩, rfl⟩, fun z3 => ⟨Or.inr rfl, Or.inl ⟨rfl, (jBl_ne b1).mp z, fun _ => by rw [z3, hs]⟩, rfl⟩⟩⟩⟩
  refine jstart (by decide) rfl (fX10_isWeighed_0 ⟨b6a, b6b, ?_⟩)
  rw [hM.2.1.1, hM.2.2.1]
  exact ⟨fun z => ⟨b6b, k30 _ (by unfold ful; rw [if_neg (by omega)])⟩, fun z => ⟨b6a, k30 _ (by unfold ful; rw [if_pos z])⟩⟩
/-! full rows -/
theorem prs_ful {C : jM} {a b : Int} {q : Int → Int} (hNa : jNB C a) (hNb : jNB C b) (hv : vld C a b q) : prs C a q ≤ ful C a b := by
  have n1 := hNa.1
  have n2 := hNb.1
  have c1 := cP_bd (fun x => 0 ≤ q x) (C a 0 0).toNat
  have e := cP_img (P := fun x => 0 ≤ q x) (f := q) (m := (C b 0 0).toNat) (C a 0 0).toNat (fun x x0 x1 h => by rcases hv.1 x with w | w <;> omega) (fun x y _ _ _ _ h _ h' => hv.2 x y h h')
  have c2 := cP_bd (fun y => ∃ x : Int, 0 ≤ x ∧ x < (C a 0 0).toNat ∧ 0 ≤ q x ∧ q x = y) (C b 0 0).toNat
  unfold prs ful
  split <;> omega
theorem ful_ext {C : jM} {a b lv : Int} (hG : gd C a b) : ∀ (j : Nat) (q : Int → Int), vld C a b q → ful C a b - prs C a q ≤ j → ∃ q', vld C a b q' ∧ prs C a q' = ful C a b ∧ (∀ wg, wth C a b lv wg 0 q ≤ wth C a b lv wg 0 q')
  | 0, q, hv, h => by
    have := prs_ful hG.2.1.1.2.1 hG.2.2.1.1.2.1 hv
    exact ⟨q, hv, by omega, fun _ => Int.le_refl _⟩
  | j + 1, q, hv, h => by
    have hf := prs_ful hG.2.1.1.2.1 hG.2.2.1.1.2.1 hv
    by_cases u : prs C a q = ful C a b
    · exact ⟨q, hv, u, fun _ => Int.le_refl _⟩
    · have hf1 : ful C a b ≤ C a 0 0 ∧ ful C a b ≤ C b 0 0 := by unfold ful; split <;> omega
      obtain ⟨q1, v1, x1, p1⟩ := row_add hG.2.1.1.2.1 hG.2.2.1.1.2.1 hv (by omega) (by omega)
      obtain ⟨q2, v2, p2, w2⟩ := ful_ext (lv := lv) hG j q1 v1 (by omega)
      refine ⟨q2, v2, p2, fun wg => Int.le_trans ?_ (w2 wg)⟩
      exact wth_add hG.1 hG.2.1 hG.2.2.1 (fun h => absurd rfl h) hv v1 x1
theorem wgd_ext {C : jM} {a b lv tm : Int} (hG : gd C a b) {q : Int → Int} (hv : vld C a b q) : ∃ q', wgd C a b tm q' ∧ prs C a q ≤ prs C a q' ∧ ∀ wg, wth C a b lv wg tm q ≤ wth C a b lv wg tm q' := by
  by_cases u : tm = 0
  · have hf := prs_ful hG.2.1.1.2.1 hG.2.2.1.1.2.1 hv
    obtain ⟨q', v', p', w'⟩ := ful_ext (lv := lv) hG (ful C a b - prs C a q).toNat q hv (by omega)
    rw [u]
    exact ⟨q', ⟨v', fun _ => p'⟩, by omega, w'⟩
  · exact ⟨q, ⟨hv, fun h => absurd h u⟩, Int.le_refl _, fun _ => Int.le_refl _⟩
