theorem isM_more2 {x n : Int} {P : Int → Prop} (h : isM x (fun j => P j ∧ j < n)) (n0 : 0 ≤ n) (n1 : n < 32) (c : Prop) [Decidable c] (hc : c ↔ P n) : isM (if c then jior x (jishl 1 n) else x) (fun j => P j ∧ j < n + 1) := by
  by_cases q : c
  · have := isM_more h n0 n1 c hc
    rw [if_pos q] at this ⊢
    exact this
  · rw [if_neg q]
    exact isM_same h (fun k => q (hc.mpr k))
theorem c_noteEnds {C M : jM} {b j : Int} (hb : 0 ≤ b ∧ b < 18) (hNb : jNB C b) (hj : 0 ≤ j ∧ j < C b 0 1) (ht : M 20 0 2 = b) (hMb : M b = C b) :
    jCallP 0 113 [.inr (20, 0), .inl j] M (fun _ M' => (∀ p e, 0 ≤ p → p < 3 → 0 ≤ e → e < 24 → M' 20 13 (24 * p + e) = if C b 6 (3 * j + p) = e then jior (M 20 13 (24 * p + e)) (jishl 1 j) else M 20 13 (24 * p + e)) ∧ ∀ x y, ¬ (x = 20 ∧ y = 13) → M' x y = M x y) := by
  refine jstart (by decide) rfl (fX0_noteEnds_0 ?_)
  have hj14 : j < 14 := by have := hNb.2.2; omega
  have key : ∀ n, 0 ≤ n → n ≤ 3 → ∀ M1 : jM, (∀ p e, 0 ≤ p → p < 3 → 0 ≤ e → e < 24 → M1 20 13 (24 * p + e) = if p < n ∧ C b 6 (3 * j + p) = e then jior (M 20 13 (24 * p + e)) (jishl 1 j) else M 20 13 (24 * p + e)) → (∀ x y, ¬ (x = 20 ∧ y = 13) → M1 x y = M x y) →
      jWP 0 113 2 [some (.inr (20, 0)), some (.inl j), some (.inl n), none] [] M1 (fun _ M' => (∀ p e, 0 ≤ p → p < 3 → 0 ≤ e → e < 24 → M' 20 13 (24 * p + e) = if C b 6 (3 * j + p) = e then jior (M 20 13 (24 * p + e)) (jishl 1 j) else M 20 13 (24 * p + e)) ∧ ∀ x y, ¬ (x = 20 ∧ y = 13) → M' x y = M x y) := by
    refine jloop (e := 3) (fun M1 h1 h2 => ?_) (fun n n0 n1 ih M1 h1 h2 => ?_)
    · refine fX0_noteEnds_2 ⟨fun _ => ⟨fun p e p0 p1 e0 e1 => ?_, h2⟩, fun q => by exfalso; omega⟩
      rw [h1 p e p0 p1 e0 e1]
      by_cases q : C b 6 (3 * j + p) = e
      · rw [if_pos ⟨p1, q⟩, if_pos q]
      · rw [if_neg (fun k => q k.2), if_neg q]
    · have e2 : M1 20 0 2 = b := by rw [h2 _ _ (by simp)]; exact ht
      have eb : M1 b 6 = C b 6 := by rw [h2 _ _ (by simp), hMb]
      have w : jwr (jwr (j * 3) + n) = 3 * j + n := by rw [jwr_id (z := j * 3) (by omega) (by omega), jwr_id (by omega) (by omega)]; omega
      have step : ∀ M2 : jM, (∀ p e, 0 ≤ p → p < 3 → 0 ≤ e → e < 24 → M2 20 13 (24 * p + e) = if p = n ∧ C b 6 (3 * j + p) = e then jior (M1 20 13 (24 * p + e)) (jishl 1 j) else M1 20 13 (24 * p + e)) → (∀ x y, ¬ (x = 20 ∧ y = 13) → M2 x y = M1 x y) → jWP 0 113 2 [some (.inr (20, 0)), some (.inl j), some (.inl (jwr (n + 1))), none] [] M2 (fun _ M' => (∀ p e, 0 ≤ p → p < 3 → 0 ≤ e → e < 24 → M' 20 13 (24 * p + e) = if C b 6 (3 * j + p) = e then jior (M 20 13 (24 * p + e)) (jishl 1 j) else M 20 13 (24 * p + e)) ∧ ∀ x y, ¬ (x = 20 ∧ y = 13) → M' x y = M x y) := by
        intro M2 g1 g2
        rw [jwr_id (by omega) (by omega)]
        refine ih M2 (fun p e p0 p1 e0 e1 => ?_) (fun x y h => by rw [g2 x y h, h2 x y h])
        rw [g1 p e p0 p1 e0 e1, h1 p e p0 p1 e0 e1]
        by_cases q : C b 6 (3 * j + p) = e
        · by_cases qn : p = n
          · rw [if_pos ⟨qn, q⟩, if_neg (fun k => by omega), if_pos ⟨by omega, q⟩]
          · rw [if_neg (fun k => qn k.1)]
            by_cases ql : p < n
            · rw [if_pos ⟨ql, q⟩, if_pos ⟨by omega, q⟩]
            · rw [if_neg (fun k => ql k.1), if_neg (fun k => by omega)]
        · rw [if_neg (fun k => q k.2), if_neg (fun k => q k.2), if_neg (fun k => q k.2)]
      refine fX0_noteEnds_2 ?_
      rw [e2, eb, w]
      refine ⟨fun q => by exfalso; omega, fun _ => ⟨hb, ⟨by omega, by rw [jal_n6 hb]; omega⟩, fun q => ?_, fun q => ⟨fun q2 => ?_, fun q2 => ?_⟩⟩⟩
      · exact step M1 (fun p e p0 p1 e0 e1 => by rw [if_neg (fun k => by rw [k.1] at k; omega)]) (fun _ _ _ => rfl)
      · exact step M1 (fun p e p0 p1 e0 e1 => by rw [if_neg (fun k => by rw [k.1] at k; omega)]) (fun _ _ _ => rfl)
      · have w2 : jwr (jwr (n * 24) + C b 6 (3 * j + n)) = 24 * n + C b 6 (3 * j + n) := by rw [jwr_id (z := n * 24) (by omega) (by omega), jwr_id (by omega) (by omega)]; omega
        rw [w2]
        have b13 : 0 ≤ 24 * n + C b 6 (3 * j + n) ∧ 24 * n + C b 6 (3 * j + n) < jal 20 13 := by rw [jal_20_13]; omega
        refine ⟨b13, b13, step _ (fun p e p0 p1 e0 e1 => ?_) (fun x y h => by rw [jup_set, jset_ne h])⟩
        by_cases q3 : p = n ∧ C b 6 (3 * j + p) = e
        · rw [if_pos q3]
          obtain ⟨q4, q5⟩ := q3
          subst q4
          rw [q5, jup_eq]
        · rw [if_neg q3, jup_ne (fun k => q3 (by
            have := k.2.2
            have e3 : p = n := by omega
            refine ⟨e3, ?_⟩
            rw [e3]
            omega))]
  exact key 0 (by omega) (by omega) M (fun p e p0 p1 e0 e1 => by rw [if_neg (fun k => by omega)]) (fun _ _ _ => rfl)
/-- moments of a tale are such -/
def jMo (C : jM) (g : Int) : Prop := ∀ i, 0 ≤ i → i < C g 0 1 → -1 ≤ C g 7 i ∧ C g 7 i < 10
def mat (C : jM) (a b tm : Int) : Prop := ¬ tm = 0 ∧ 1 < cntN (C a 7) (C a 0 1) ∧ 1 < cntN (C b 7) (C b 0 1)
def jTm (C M : jM) (a b tm : Int) : Prop := M 21 0 0 = a ∧ M 21 0 1 = b ∧ jBl (M 21 0 2) (mat C a b tm) ∧
  (∀ m, 0 ≤ m → m < 10 → isM (M 21 4 m) (fun j => j < C b 0 1 ∧ C b 7 j = m) ∧ isM (M 21 5 m) (fun j => j < C b 0 1 ∧ 0 ≤ C b 7 j ∧ C b 7 j < m)) ∧ isM (M 21 0 5) (fun j => j < C b 0 1 ∧ 0 ≤ C b 7 j ∧ C b 7 j < 10)
theorem c_Ttake {C M : jM} {a b tm : Int} (ha : 0 ≤ a ∧ a < 18) (hb : 0 ≤ b ∧ b < 18) (hNa : jNB C a) (hNb : jNB C b) (hMa : M a = C a) (hMb : M b = C b) :
    jCallP 1 166 [.inr (21, 0), .inr (a, 0), .inr (b, 0), .inl tm] M (fun _ M' => jTm C M' a b tm ∧ ∀ x y, ¬ (x = 21 ∧ (y = 0 ∨ y = 4 ∨ y = 5)) → M' x y = M x y) := by
  refine jstart (by decide) rfl (fX7_take_0 ?_)
  -- the loop over the moments
  have key : ∀ m, 0 ≤ m → m ≤ 10 → ∀ M1 : jM, M1 21 0 0 = a → M1 21 0 1 = b → jBl (M1 21 0 2) (mat C a b tm) →
      (∀ k, 0 ≤ k → k < m → isM (M1 21 4 k) (fun j => j < C b 0 1 ∧ C b 7 j = k) ∧ isM (M1 21 5 k) (fun j => j < C b 0 1 ∧ 0 ≤ C b 7 j ∧ C b 7 j < k)) → isM (M1 21 0 5) (fun j => j < C b 0 1 ∧ 0 ≤ C b 7 j ∧ C b 7 j < m) → (∀ x y, ¬ (x = 21 ∧ (y = 0 ∨ y = 4 ∨ y = 5)) → M1 x y = M x y) →
      jWP 1 166 53 [some (.inr (21, 0)), none, none, none, some (.inl m), none] [] M1 (fun _ M' => jTm C M' a b tm ∧ ∀ x y, ¬ (x = 21 ∧ (y = 0 ∨ y = 4 ∨ y = 5)) → M' x y = M x y) := by
    refine jloop (e := 10) (fun M1 h0 h1 h2 h3 h4 h5 => ?_) (fun m m0 m1 ih M1 h0 h1 h2 h3 h4 h5 => ?_)
    · exact fX7_take_53 ⟨fun _ => ⟨⟨h0, h1, h2, h3, h4⟩, h5⟩, fun q => by exfalso; omega⟩
    · refine fX7_take_53 ⟨fun q => by exfalso; omega, fun _ => ⟨⟨m0, by rw [jal_21_5]; exact m1⟩, ⟨m0, by rw [jal_21_4]; exact m1⟩, ?_⟩⟩
      have inner : ∀ n, 0 ≤ n → n ≤ C b 0 1 → ∀ M2 : jM, isM (M2 21 4 m) (fun j => (j < C b 0 1 ∧ C b 7 j = m) ∧ j < n) → (∀ y c, ¬ (y = 4 ∧ c = m) → M2 21 y c = (jup M1 21 5 m (M1 21 0 5)) 21 y c) → (∀ x y, ¬ (x = 21 ∧ (y = 0 ∨ y = 4 ∨ y = 5)) → M2 x y = M x y) →
          jWP 1 166 82 [some (.inr (21, 0)), none, none, none, some (.inl m), some (.inl n)] [] M2 (fun _ M' => jTm C M' a b tm ∧ ∀ x y, ¬ (x = 21 ∧ (y = 0 ∨ y = 4 ∨ y = 5)) → M' x y = M x y) := by
        refine jloop (e := C b 0 1) (fun M2 g1 g2 g3 => ?_) (fun n n0 n1 ih2 M2 g1 g2 g3 => ?_)
        · have e1 : M2 21 0 1 = b := by rw [g2 _ _ (by simp), jup_ne (by simp), h1]
          have eb : M2 b 0 1 = C b 0 1 := by rw [g3 _ _ (by omega), hMb]
          have b4 : 0 ≤ m ∧ m < jal 21 4 := by rw [jal_21_4]; omega
          refine fX7_take_82 ?_
          rw [e1, eb]
          refine ⟨hb, fun _ => ⟨b4, ?_⟩, fun q => by exfalso; omega⟩
          rw [jwr_id (by omega) (by omega)]
          have hm4 : isM (M2 21 4 m) (fun j => j < C b 0 1 ∧ C b 7 j = m) := g1.congr (fun j _ _ => ⟨fun q => q.1, fun q => ⟨q, q.1⟩⟩)
          have e5 : M2 21 0 5 = M1 21 0 5 := by rw [g2 _ _ (by simp), jup_ne (by simp)]
          refine ih _ ?_ ?_ ?_ (fun k k0 k1 => ?_) ?_ (fun x y hx => ?_)
          · rw [jup_ne (by simp), g2 _ _ (by simp), jup_ne (by simp), h0]
          · rw [jup_ne (by simp), e1]
          · rw [jup_ne (by simp), g2 _ _ (by simp), jup_ne (by simp)]; exact h2
          · rw [jup_ne (by simp), jup_ne (by simp)]
            by_cases hk : k = m
            · subst hk
              refine ⟨hm4, ?_⟩
              rw [g2 _ _ (by simp), jup_eq]
              exact h4
            · rw [g2 4 k (by simp [hk]), g2 5 k (by simp), jup_ne (by simp), jup_ne (by simp [hk])]
              exact h3 k k0 (by omega)
          · rw [jup_eq, e5]
            exact (h4.or hm4).congr (fun j _ _ => ⟨fun q => by rcases q with q | q <;> (refine ⟨q.1, ?_⟩; omega), fun q => by
              by_cases e : C b 7 j = m
              · exact Or.inr ⟨q.1, e⟩
              · exact Or.inl ⟨q.1, q.2.1, by omega⟩⟩)
          · rw [jup_set, jset_ne (fun q => hx ⟨q.1, by simp [q.2]⟩)]; exact g3 x y hx
        · have e1 : M2 21 0 1 = b := by rw [g2 _ _ (by simp), jup_ne (by simp), h1]
          have eb : ∀ y, M2 b y = C b y := fun y => by rw [g3 _ _ (by omega), hMb]
          have b4 : 0 ≤ m ∧ m < jal 21 4 := by rw [jal_21_4]; omega
          have n14 := hNb.2.2
          refine fX7_take_82 ?_
          rw [e1, eb, eb]
          refine ⟨hb, fun q => by exfalso; omega, fun _ => ⟨b4, hb, ⟨n0, by rw [jal_n7 hb]; omega⟩, fun q => ⟨b4, ?_⟩, fun q => ⟨b4, ?_⟩⟩⟩
          · rw [jwr_id (by omega) (by omega)]
            refine ih2 _ ?_ (fun y c h => ?_) (fun x y hx => by rw [jup_set, jset_ne (fun k => hx ⟨k.1, by simp [k.2]⟩)]; exact g3 x y hx)
            · rw [jup_eq]
              have := isM_more g1 n0 (by omega) (C b 7 n = m) ⟨fun k => ⟨n1, k⟩, fun k => k.2⟩
              rw [if_neg q] at this
              exact this
            · rw [jup_ne (fun k => h ⟨k.2.1, k.2.2⟩)]; exact g2 y c h
          · rw [jwr_id (by omega) (by omega)]
            refine ih2 _ ?_ (fun y c h => ?_) (fun x y hx => by rw [jup_set, jset_ne (fun k => hx ⟨k.1, by simp [k.2]⟩)]; exact g3 x y hx)
            · rw [jup_eq]
              have := isM_more g1 n0 (by omega) (C b 7 n = m) ⟨fun k => ⟨n1, k⟩, fun k => k.2⟩
              rw [if_pos q] at this
              exact this
            · rw [jup_ne (fun k => h ⟨k.2.1, k.2.2⟩)]; exact g2 y c h
      refine inner 0 (by omega) hNb.2.1 _ ?_ (fun y c h => ?_) (fun x y hx => ?_)
      · rw [jup_eq]
        exact isM_0.congr (fun j j0 j1 => ⟨fun q => q.elim, fun q => by have := q.2; omega⟩)
      · rw [jup_ne (fun k => h ⟨k.2.1, k.2.2⟩)]
      · rw [jup_set, jset_ne (fun k => hx ⟨k.1, by simp [k.2]⟩), jup_set, jset_ne (fun k => hx ⟨k.1, by simp [k.2]⟩)]; exact h5 x y hx
  have start : ∀ (v : Int) (M1 : jM), jBl v (mat C a b tm) → M1 21 0 0 = a → M1 21 0 1 = b → (∀ x y, ¬ (x = 21 ∧ (y = 0 ∨ y = 4 ∨ y = 5)) → M1 x y = M x y) → jWP 1 166 53 [some (.inr (21, 0)), none, none, none, some (.inl 0), none] [] (jup (jup M1 21 0 2 v) 21 0 5 0) (fun _ M' => jTm C M' a b tm ∧ ∀ x y, ¬ (x = 21 ∧ (y = 0 ∨ y = 4 ∨ y = 5)) → M' x y = M x y) := by
    intro v M1 hv g0 g1 g2
    refine key 0 (by omega) (by omega) _ ?_ ?_ ?_ (fun k k0 k1 => by omega) ?_ (fun x y hx => ?_)
    · rw [jup_ne (by simp), jup_ne (by simp), g0]
    · rw [jup_ne (by simp), jup_ne (by simp), g1]
    · rw [jup_ne (by simp), jup_eq]; exact hv
    · rw [jup_eq]
      exact isM_0.congr (fun j j0 j1 => ⟨fun q => q.elim, fun q => by have := q.2; omega⟩)
    · rw [jup_set, jset_ne (fun k => hx ⟨k.1, by simp [k.2]⟩), jup_set, jset_ne (fun k => hx ⟨k.1, by simp [k.2]⟩)]; exact g2 x y hx
  generalize hM0 : jup (jup M 21 0 0 a) 21 0 1 b = M0
  have z0 : M0 21 0 0 = a := by rw [← hM0, jup_ne (by simp), jup_eq]
  have z1 : M0 21 0 1 = b := by rw [← hM0, jup_eq]
  have zf : ∀ x y, ¬ (x = 21 ∧ (y = 0 ∨ y = 4 ∨ y = 5)) → M0 x y = M x y := fun x y hx => by rw [← hM0, jup_set, jset_ne (fun k => hx ⟨k.1, by simp [k.2]⟩), jup_set, jset_ne (fun k => hx ⟨k.1, by simp [k.2]⟩)]
  have ea : ∀ y, M0 a y = C a y := fun y => by rw [zf _ _ (by omega), hMa]
  have eb : ∀ y, M0 b y = C b y := fun y => by rw [zf _ _ (by omega), hMb]
  have hNa0 : jNB M0 a := by unfold jNB; rw [ea]; exact hNa
  have hNb0 : jNB M0 b := by unfold jNB; rw [eb]; exact hNb
  refine ⟨ha, hb, fun q => ⟨Or.inl rfl, start 0 M0 (Or.inr ⟨rfl, fun k => k.1 q⟩) z0 z1 zf⟩, fun q => ?_⟩
  rw [z0]
  refine ⟨ha, jc (c_countOfMoments ha hNa0) (by decide) ?_⟩
  rw [ea, ea, z1]
  refine ⟨fun q1 => ⟨Or.inl rfl, start 0 M0 (Or.inr ⟨rfl, fun k => by have := k.2.1; omega⟩) z0 z1 zf⟩, fun q1 => ⟨hb, jc (c_countOfMoments hb hNb0) (by decide) ?_⟩⟩
  rw [eb, eb]
  exact ⟨fun q2 => ⟨Or.inl rfl, start 0 M0 (Or.inr ⟨rfl, fun k => by have := k.2.2; omega⟩) z0 z1 zf⟩, fun q2 => ⟨Or.inr rfl, start 1 M0 (Or.inl ⟨rfl, q, q1, q2⟩) z0 z1 zf⟩⟩
