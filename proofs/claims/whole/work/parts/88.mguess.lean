/-! the reference: guesses -/
def mGs (C M : jM) (p A G : Int → Int) (n : Int) : Prop := (∀ x, 0 ≤ x → x < C 12 0 0 → M 28 11 x = nd (p x) ∧ -1 ≤ p x ∧ p x < 6) ∧ (∀ i, 0 ≤ i → i < C 12 0 1 → M 28 12 i = jno (A i) ∧ -1 ≤ A i ∧ A i < 14) ∧ (∀ i, 0 ≤ i → i < n → M 28 25 i = jno (G i) ∧ -1 ≤ G i ∧ G i < 14)
/-- the kept tales are there -/
def kd (C M : jM) : Prop := jLV C ∧ jGood C 12 ∧ jGood C 13 ∧ rL C M ∧ rT C M 12 ∧ rT C M 13
theorem m_over {C M : jM} {p A G : Int → Int} {n e : Int} (hG : jGood C 12) (hS : mGs C M p A G n) (hn : n ≤ C 12 0 1) (h0 : -1 ≤ e) (h1 : e < 10 → e < C 12 0 0) (h2 : e < 10 + n) : jCallP 0 89 [.inr (28, 0), .inl (jno e)] M (fun r M' => r = jno (ovr p A G e) ∧ M' = M) := by
  have n1 := hG.1.2.1.1
  have n2 := hG.1.2.1.2
  obtain ⟨s1, s2, s3⟩ := hS
  refine jstart (by decide) rfl (fX10_over_0 ⟨fun z => ?_, fun z => ⟨?_, rfl⟩⟩)
  rotate_left
  · have : e = -1 := (jno_lt h0).mp z
    unfold ovr
    rw [if_pos (by omega)]
    rfl
  have e0 : 0 ≤ e := by
    apply Classical.byContradiction
    intro q
    rw [jno_neg (by omega)] at z
    exact absurd z (by decide)
  rw [jno_ge e0]
  unfold ovr
  rw [if_neg (by omega)]
  refine ⟨fun z2 => ?_, fun z2 => ?_⟩
  · rw [if_neg (by omega), jwr_id (z := e - 10) (by omega) (by omega)]
    obtain ⟨a1, a2, a3⟩ := s2 (e - 10) (by omega) (by omega)
    obtain ⟨g1, g2, g3⟩ := s3 (e - 10) (by omega) (by omega)
    have b12 : 0 ≤ e - 10 ∧ e - 10 < jal 28 12 := by rw [jal_28_12]; omega
    have b25 : 0 ≤ e - 10 ∧ e - 10 < jal 28 25 := by rw [jal_28_25]; omega
    rw [a1, g1]
    refine ⟨b12, fun z3 => ⟨b25, fun z4 => ⟨?_, rfl⟩, fun z4 => ⟨b25, ?_, rfl⟩⟩, fun z3 => ⟨b12, ?_, rfl⟩⟩
    · rw [if_pos ((jno_lt a2).mp z3), if_pos ((jno_lt g2).mp z4)]; rfl
    · have g0 : 0 ≤ G (e - 10) := by
        apply Classical.byContradiction
        intro q
        rw [jno_neg (by omega)] at z4
        exact absurd z4 (by decide)
      rw [if_pos ((jno_lt a2).mp z3), if_neg (by omega), jno_ge g0, jno_ge (by omega), jwr_id (by omega) (by omega)]
    · have a0 : 0 ≤ A (e - 10) := by
        apply Classical.byContradiction
        intro q
        rw [jno_neg (by omega)] at z3
        exact absurd z3 (by decide)
      rw [if_neg (by omega), jno_ge a0, jno_ge (by omega), jwr_id (by omega) (by omega)]
  · rw [if_pos z2]
    obtain ⟨p1, p2, p3⟩ := s1 e e0 (h1 z2)
    have b11 : 0 ≤ e ∧ e < jal 28 11 := by rw [jal_28_11]; omega
    rw [p1]
    unfold nd jno
    refine ⟨b11, fun z3 => ⟨b11, ?_, rfl⟩, fun z3 => ⟨?_, rfl⟩⟩
    · by_cases u : p e < 0
      · rw [if_pos u] at z3; exact absurd rfl z3
      · rw [if_neg u, if_neg u]
    · by_cases u : p e < 0
      · rw [if_pos u]
      · rw [if_neg u] at z3; omega
/-- what laying the guesses changes -/
def fG (M M' : jM) : Prop := f28 M M' ∧ (∀ y, ¬ (y = 0 ∨ y = 24 ∨ y = 25) → M' 28 y = M 28 y) ∧ ∀ z, ¬ z = 22 → M' 28 0 z = M 28 0 z
theorem fG.tr {M M' M'' : jM} (h : fG M M') (h' : fG M' M'') : fG M M'' := ⟨h.1.tr h'.1, fun y q => by rw [h'.2.1 y q, h.2.1 y q], fun z q => by rw [h'.2.2 z q, h.2.2 z q]⟩
theorem fG_25 {M : jM} {j v : Int} : fG M (jup M 28 25 j v) := ⟨f28_up, fun y q => by rw [jup_set, jset_ne (by omega)], fun z q => by rw [jup_ne (by simp)]⟩
theorem fG_24 {M : jM} {j v : Int} : fG M (jup M 28 24 j v) := ⟨f28_up, fun y q => by rw [jup_set, jset_ne (by omega)], fun z q => by rw [jup_ne (by simp)]⟩
theorem fG_0 {M : jM} {v : Int} : fG M (jup M 28 0 22 v) := ⟨f28_up, fun y q => by rw [jup_set, jset_ne (by omega)], fun z q => by rw [jup_ne (by omega)]⟩
theorem fG.s {M M' : jM} (h : fG M M') : fS M M' := ⟨h.1, fun y q => h.2.1 y (by omega), fun z q => h.2.2 z (by omega)⟩
theorem fS.kd {C M M' : jM} (h : fS M M') (hk : kd C M) : kd C M' := by
  obtain ⟨h1, h2, h3, h4, h5, h6⟩ := hk
  refine ⟨h1, h2, h3, fun k k0 k1 => ?_, h5.fx rfl (fun y hy => h.2.1 y (by omega)), h6.fx rfl (fun y hy => h.2.1 y (by omega))⟩
  rw [h.2.1 1 (by omega), h.2.1 2 (by omega), h.2.1 3 (by omega), h.2.1 4 (by omega)]
  exact h4 k k0 k1
/-- the guesses as the reference lays them -/
def mGl (C M : jM) (p A : Int → Int) : Prop := mGs C M p A (gS C p A (C 12 0 1).toNat).2 (C 12 0 1) ∧ M 28 0 22 = (gS C p A (C 12 0 1).toNat).1 ∧ ∀ i, 0 ≤ i → i < C 12 0 1 → 0 ≤ (gS C p A (C 12 0 1).toNat).2 i → M 28 24 ((gS C p A (C 12 0 1).toNat).2 i) = i
theorem m_layGuesses {C M : jM} {p A : Int → Int} (hk : kd C M) (hS : mGs C M p A (fun _ => -1) 0) : jCallP 1 90 [.inr (28, 0)] M (fun _ M' => mGl C M' p A ∧ fG M M') := by
  have hkk := hk
  obtain ⟨hL, hG, -, rl, T12, -⟩ := hk
  have n1 := hG.1.2.1.1
  have n2 := hG.1.2.1.2
  obtain ⟨s1, s2, -⟩ := hS
  refine jstart (by decide) rfl (fX10_layGuesses_0 ?_)
  have key : ∀ (j n : Nat) (N : jM), ((n + j : Nat) : Int) = C 12 0 1 → fG M N → N 28 0 22 = (gS C p A n).1 → (∀ i : Int, 0 ≤ i → i < n → N 28 25 i = jno ((gS C p A n).2 i)) → (∀ i : Int, 0 ≤ i → i < n → 0 ≤ (gS C p A n).2 i → N 28 24 ((gS C p A n).2 i) = i) → jWP 1 90 7 [some (.inr (28, 0)), some (.inl (n : Int)), none, none, none] [] N (fun _ M' => mGl C M' p A ∧ fG M M') := by
    intro j
    induction j with
    | zero =>
      intro n N hn hf h22 h25 h24
      have T' := (hf.s.kd hkk).2.2.2.2.1
      have eN : (C 12 0 1).toNat = n := by omega
      refine fX10_layGuesses_7 ⟨by rw [jal_28_9]; omega, fun _ => ⟨⟨⟨fun x x0 x1 => ?_, fun i i0 i1 => ?_, fun i i0 i1 => ?_⟩, by rw [h22, eN], fun i i0 i1 hi => ?_⟩, hf⟩, fun z => by rw [T'.2.1] at z; exfalso; omega⟩
      · rw [hf.2.1 11 (by decide)]; exact s1 x x0 x1
      · rw [hf.2.1 12 (by decide)]; exact s2 i i0 i1
      · rw [eN]
        have bd := gS_bd C p A n
        refine ⟨h25 i i0 (by omega), (bd.2.1 i).1, ?_⟩
        have := (bd.2.1 i).2
        have := bd.1.2
        omega
      · rw [eN] at hi ⊢
        exact h24 i i0 (by omega) hi
    | succ j ih =>
      intro n N hn hf h22 h25 h24
      have en : (n : Int) + 1 = ((n + 1 : Nat) : Int) := by omega
      have bd := gS_bd C p A n
      have b25 : 0 ≤ (n : Int) ∧ (n : Int) < jal 28 25 := by rw [jal_28_25]; omega
      have b12 : 0 ≤ (n : Int) ∧ (n : Int) < jal 28 12 := by rw [jal_28_12]; omega
      have T' := (hf.s.kd hkk).2.2.2.2.1
      have hc := hG.2.2.2.2
      have hEn := hG.2.1
      have K := hG.1.2.2.1 n (by omega) (by omega)
      generalize hN0 : jup N 28 25 n (-6) = N0
      have f0 : fG M N0 := by rw [← hN0]; exact hf.tr fG_25
      have k0 := f0.s.kd hkk
      have e22 : N0 28 0 22 = (gS C p A n).1 := by rw [← hN0, jup_ne (by simp), h22]
      have e25 : ∀ i : Int, ¬ i = n → N0 28 25 i = N 28 25 i := fun i hi => by rw [← hN0, jup_ne (by omega)]
      have e25n : N0 28 25 n = -6 := by rw [← hN0, jup_eq]
      have e24 : N0 28 24 = N 28 24 := by rw [← hN0, jup_set, jset_ne (by simp)]
      obtain ⟨q0, q1, q2, q3, -⟩ := k0.2.2.2.2.1.2.2.2 n (by omega) (by omega)
      have gs0 : mGs C N0 p A (gS C p A n).2 n := ⟨fun x x0 x1 => by rw [f0.2.1 11 (by decide)]; exact s1 x x0 x1, fun i i0 i1 => by rw [f0.2.1 12 (by decide)]; exact s2 i i0 i1, fun i i0 i1 => ⟨by rw [e25 i (by omega)]; exact h25 i i0 i1, (bd.2.1 i).1, by have := (bd.2.1 i).2; have := bd.1.2; omega⟩⟩
      have pk := (k0.2.2.2.1 (C 12 5 n) K.1 K.2).1
      obtain ⟨⟨l1, l3⟩, -⟩ := hL _ K.1 K.2
      have bI : 0 ≤ 84 * 12 + 6 * (n : Int) ∧ 84 * 12 + 6 * (n : Int) < jal 28 10 := by rw [jal_28_10]; omega
      -- the end of the test of a tie
      have k51 : ∀ q : Int, 0 ≤ q → q ≤ C 19 1 (C 12 5 n) → ∀ v, (v = 0 ∨ v = 1) → (v = 1 ↔ (A n = -1 ∧ ∀ c, 0 ≤ c → c < q → ¬ ovr p A (gS C p A n).2 (C 12 6 (3 * n + c)) = -1)) → jWP 1 90 51 [some (.inr (28, 0)), some (.inl (n : Int)), some (.inl (84 * 12 + 6 * (n : Int))), some (.inl v), some (.inl q)] [] N0 (fun _ M' => mGl C M' p A ∧ fG M M') := by
        refine jloop (e := C 19 1 (C 12 5 n)) (fun v hv h => ?_) (fun q c0 c1 ih2 v hv h => ?_)
        · have hiff : v = 1 ↔ (A n = -1 ∧ isG C p A (gS C p A n).2 n) := by
            rw [h]
            refine and_congr_right (fun _ => ⟨fun hh c c0 c1 => ?_, fun hh c c0 c1 => ?_⟩)
            · have := hc n c (by omega) (by omega) c0 c1
              by_cases u : c < C 19 1 (C 12 5 n)
              · exact Or.inr (hh c c0 u)
              · exact Or.inl (this.mpr (by omega))
            · have := hc n c (by omega) (by omega) c0 (by omega)
              rcases hh c c0 (by omega) with e | e
              · have := this.mp e; omega
              · exact e
          refine fX10_layGuesses_51 ⟨bI, ?_⟩
          rw [q0, pk]
          refine ⟨by rw [jal_28_1]; exact K, fun _ => ⟨fun z => ?_, fun z => ⟨b25, ?_⟩⟩, fun z => by exfalso; omega⟩
          · have no : ¬ (A n = -1 ∧ isG C p A (gS C p A n).2 n) := fun q => by have := hiff.mpr q; omega
            rw [jwr_id (by omega) (by omega), en]
            refine ih (n + 1) N0 (by omega) f0 (by rw [gS_no no]; exact e22) (fun i i0 i1 => ?_) (fun i i0 i1 hi => ?_)
            · rw [gS_no no]
              by_cases u : i = n
              · rw [u, e25n, bd.2.2.1 n (by omega)]; rfl
              · rw [e25 i u]; exact h25 i i0 (by omega)
            · rw [gS_no no] at hi ⊢
              rw [e24]
              by_cases u : i = n
              · rw [u, bd.2.2.1 n (by omega)] at hi; exact absurd hi (by decide)
              · exact h24 i i0 (by omega) hi
          · have yes := hiff.mp (by omega)
            have n22 : ∀ (D : jM) y j v z, ¬ y = 0 → jup D 28 y j v 28 0 z = D 28 0 z := fun D y j v z h => jup_ne (by omega)
            rw [n22 _ 25 _ _ _ (by decide), n22 _ 24 _ _ _ (by decide), n22 _ 25 _ _ _ (by decide), e22, jwr_id (z := (n : Int) + 1) (by omega) (by omega), en, jwr_id (z := (gS C p A n).1 + 1) (by omega) (by omega)]
            refine ⟨by rw [jal_28_24]; omega, ih (n + 1) _ (by omega) (((f0.tr fG_25).tr fG_24).tr fG_0) (by rw [jup_eq, gS_yes yes]) (fun i i0 i1 => ?_) (fun i i0 i1 hi => ?_)⟩
            · rw [jup_ne (by simp), jup_ne (by simp), gS_yes yes]
              dsimp only
              by_cases u : i = n
              · rw [u, jup_eq, jfu_eq, jno_ge bd.1.1]
              · rw [jup_ne (by omega), jfu_ne u, e25 i u]; exact h25 i i0 (by omega)
            · rw [gS_yes yes] at hi ⊢
              dsimp only at hi ⊢
              by_cases u : i = n
              · rw [u, jfu_eq, jup_ne (by simp), jup_eq]
              · rw [jfu_ne u] at hi ⊢
                have := bd.2.1 i
                rw [jup_ne (by simp), jup_ne (by omega), jup_ne (by simp), e24]
                exact h24 i i0 (by omega) hi
        · have hen := hEn n q (by omega) (by omega) c0 (by omega)
          have hcn := hc n q (by omega) (by omega) c0 (by omega)
          have sq : N0 28 10 (84 * 12 + 6 * (n : Int) + 1 + q) = jno (C 12 6 (3 * n + q)) := by
            have cs : q = 0 ∨ q = 1 ∨ q = 2 := by omega
            rcases cs with e | e | e
            · rw [e, Int.add_zero, Int.add_zero, q1]
            · rw [e, show (84 * 12 + 6 * (n : Int) + 1 + 1 : Int) = 84 * 12 + 6 * n + 2 by omega, q2]
            · rw [e, show (84 * 12 + 6 * (n : Int) + 1 + 2 : Int) = 84 * 12 + 6 * n + 3 by omega, q3]
          refine fX10_layGuesses_51 ⟨bI, ?_⟩
          rw [q0, pk, jwr_id (z := q + 1) (by omega) (by omega), jwr_id (z := 84 * 12 + 6 * (n : Int) + 1) (by omega) (by omega), jwr_id (z := 84 * 12 + 6 * (n : Int) + 1 + q) (by omega) (by omega), sq]
          refine ⟨by rw [jal_28_1]; exact K, fun z => by exfalso; omega, fun _ => ⟨fun z => ih2 0 (Or.inl rfl) ⟨fun q => absurd q (by decide), fun hh => ?_⟩, fun z => ⟨by rw [jal_28_10]; omega, jc (m_over (n := n) hG gs0 (by omega) hen.1 hen.2.1 hen.2.2) (by decide) ?_⟩⟩⟩
          · have := h.mpr ⟨hh.1, fun c c0 c1 => hh.2 c c0 (by omega)⟩
            omega
          · have h1 := h.mp (by omega)
            have ov : -1 ≤ ovr p A (gS C p A n).2 (C 12 6 (3 * n + q)) := by
              unfold ovr
              by_cases u : C 12 6 (3 * n + q) < 0
              · rw [if_pos u]; omega
              · rw [if_neg u]
                by_cases u2 : C 12 6 (3 * n + q) < 10
                · rw [if_pos u2]; exact (s1 _ (by omega) (hen.2.1 u2)).2.1
                · rw [if_neg u2]
                  have a2 := (s2 (C 12 6 (3 * n + q) - 10) (by omega) (by omega)).2.1
                  have g2 := (bd.2.1 (C 12 6 (3 * n + q) - 10)).1
                  split
                  · split <;> omega
                  · omega
            refine ⟨fun z2 => ih2 0 (Or.inl rfl) ⟨fun q => absurd q (by decide), fun hh => ?_⟩, fun z2 => ih2 1 (Or.inr rfl) ⟨fun _ => ⟨h1.1, fun c c0 c1 => ?_⟩, fun _ => rfl⟩⟩
            · exact absurd ((jno_lt ov).mp z2) (hh.2 q c0 (by omega))
            · by_cases u : c = q
              · rw [u]
                intro e
                rw [e] at z2
                exact absurd z2 (by decide)
              · exact h1.2 c c0 (by omega)
      refine fX10_layGuesses_7 ⟨by rw [jal_28_9]; omega, fun z => by rw [T'.2.1] at z; exfalso; omega, fun _ => ⟨b25, ?_⟩⟩
      rw [hN0]
      refine jc (m_at N0 (t := 12) (e := n) (by omega) (by omega)) (by decide) ⟨b12, ?_⟩
      obtain ⟨a1, a2, a3⟩ := gs0.2.1 n (by omega) (by omega)
      rw [a1]
      refine ⟨fun z => k51 0 (by omega) (by omega) 0 (Or.inl rfl) ⟨fun q => absurd q (by decide), fun hh => ?_⟩, fun z => k51 0 (by omega) (by omega) 1 (Or.inr rfl) ⟨fun _ => ⟨(jno_lt a2).mp z, fun c c0 c1 => by omega⟩, fun _ => rfl⟩⟩
      rw [hh.1] at z
      exact absurd z (by decide)
  refine key (C 12 0 1).toNat 0 _ (by omega) fG_0 (by rw [jup_eq]; rfl) (fun i i0 i1 => by omega) (fun i i0 i1 => by omega)
