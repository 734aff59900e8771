/-! the reference: put, tie, become and what is told of tales -/
theorem hEnd_hE {C : jM} {t e : Int} (h : e < 10 + C t 0 1) : hEnd C t e = hE C t e := by
  unfold hEnd hE
  by_cases u : 10 ≤ e
  · rw [if_pos ⟨u, h⟩, if_pos u]
  · rw [if_neg (fun q => u q.1), if_neg u]
theorem m_heightOf {C M : jM} {t k x y z y' z' : Int} (hL : jLV C) (hRL : rL C M) (hRT : rT C M t) (hG : jGood C t) (ht : 0 ≤ t ∧ t < 15) (hk : isK k) (hx : eOk C t k x 0) (hy : eOk C t k y 1) (hz : eOk C t k z 2) (ey : 2 ≤ C 19 1 k → y' = y) (ez : 3 ≤ C 19 1 k → z' = z) : jCallP 1 62 [.inr (28, 0), .inl t, .inl k, .inl x, .inl y', .inl z'] M (fun r M' => r = hTie C t x y z ∧ M' = M) := by
  have hHB := good_hb hG
  obtain ⟨⟨-, hN, -⟩, -⟩ := hG
  obtain ⟨n1, n2⟩ := id hN
  obtain ⟨r6, r9, -, r10⟩ := hRT
  obtain ⟨⟨c1, c3⟩, -⟩ := hL k hk.1 hk.2
  have p1 := (hRL k hk.1 hk.2).1
  have bk1 : 0 ≤ k ∧ k < jal 28 1 := by rw [jal_28_1]; exact hk
  obtain ⟨x1, x2, x3, x4⟩ := hx
  obtain ⟨y1, y2, y3, y4⟩ := hy
  obtain ⟨z1, z2, z3, z4⟩ := hz
  have bx := hEnd_bd hN hHB x
  have by' := hEnd_bd hN hHB y
  have bz := hEnd_bd hN hHB z
  rw [hEnd_hE x3] at bx
  rw [hEnd_hE y3] at by'
  rw [hEnd_hE z3] at bz
  have hno : hE C t (-1) = 0 := rfl
  have fin : hTie C t x y z = 1 + jmx (hE C t x) (jmx (hE C t y) (hE C t z)) := by unfold hTie; rw [hEnd_hE x3, hEnd_hE y3, hEnd_hE z3]
  rw [fin]
  refine jstart (by decide) rfl (fX10_heightOf_0 ?_)
  have st : ∀ (e h j : Int) (Q : Int → jM → Prop), 0 ≤ e → e < 10 + C t 0 1 → 0 ≤ j → j < 3 → jWP 1 62 6 [some (.inr (28, 0)), some (.inl t), some (.inl k), some (.inl x), some (.inl y'), some (.inl z'), some (.inl (if h < hE C t e then hE C t e else h)), some (.inl (j + 1)), none, none] [] M Q → jWP 1 62 39 [some (.inr (28, 0)), some (.inl t), some (.inl k), some (.inl x), some (.inl y'), some (.inl z'), some (.inl h), some (.inl j), none, none] [.inl e] M Q := by
    intro e h j Q e0 e1 j0 j1 hn
    have k68 : ∀ v, v = hE C t e → jWP 1 62 68 [some (.inr (28, 0)), some (.inl t), some (.inl k), some (.inl x), some (.inl y'), some (.inl z'), some (.inl h), some (.inl j), none, none] [.inl v] M Q := fun v hv => by
      refine fX10_heightOf_68 ⟨fun w => ?_, fun w => ?_⟩
      all_goals rw [jwr_id (by omega) (by omega)]
      · rw [if_neg (by omega)] at hn; exact hn
      · rw [if_pos (by omega), ← hv] at hn; exact hn
    refine fX10_heightOf_39 ⟨fun w => ?_, fun w => k68 0 (by unfold hE; rw [if_neg (by omega)])⟩
    rw [jwr_id (by omega) (by omega)]
    refine jc (m_at M (t := t) (e := e - 10) ht (by omega)) (by decide) ?_
    rw [jwr_id (by omega) (by omega)]
    refine ⟨by rw [jal_28_10]; omega, k68 _ ?_⟩
    rw [(r10 (e - 10) (by omega) (by omega)).2.2.2.2.2]
    unfold hE
    rw [if_pos w]
  refine fX10_heightOf_6 ⟨bk1, ?_⟩
  rw [p1]
  refine ⟨fun w => by exfalso; omega, fun w => ⟨fun w2 => absurd rfl w2, fun _ => st x 0 0 _ (by omega) x3 (by omega) (by omega) (fX10_heightOf_6 ⟨bk1, ?_⟩)⟩⟩
  rw [p1]
  refine ⟨fun w2 => ⟨?_, rfl⟩, fun w2 => ⟨fun w3 => ⟨fun w4 => by exfalso; omega, fun w4 => ?_⟩, fun w3 => by exfalso; omega⟩⟩
  · have e1 : y = -1 := y4.mpr (by omega)
    have e2 : z = -1 := z4.mpr (by omega)
    rw [e1, e2, hno]
    unfold jmx
    split <;> rw [jwr_id (by omega) (by omega)] <;> split <;> first | omega | (split <;> omega)
  · rw [ey (by omega)]
    have st1 := fun h Q => st y h (0 + 1) Q (by omega) y3 (by omega) (by omega)
    rw [ey (by omega)] at st1
    refine st1 _ _ (fX10_heightOf_6 ⟨bk1, ?_⟩)
    rw [p1]
    refine ⟨fun w5 => ⟨?_, rfl⟩, fun w5 => ⟨fun w6 => ⟨fun w7 => ?_, fun w7 => by exfalso; omega⟩, fun w6 => by exfalso; omega⟩⟩
    · have e2 : z = -1 := z4.mpr (by omega)
      rw [e2, hno]
      generalize hE C t x = a at bx
      generalize hE C t y = b at by'
      unfold jmx
      have : (if (if (0 : Int) < a then a else 0) < b then b else (if (0 : Int) < a then a else 0)) = (if a < b then b else a) := by (repeat' split) <;> omega
      rw [this]
      have : (if b < 0 then (0 : Int) else b) = b := by split <;> omega
      rw [this]
      split <;> rw [jwr_id (by omega) (by omega)] <;> omega
    · rw [ez (by omega)]
      have st2 := fun h Q => st z h (0 + 1 + 1) Q (by omega) z3 (by omega) (by omega)
      rw [ey (by omega), ez (by omega)] at st2
      refine st2 _ _ (fX10_heightOf_6 ⟨bk1, ?_⟩)
      rw [p1]
      refine ⟨fun w5 => ⟨?_, rfl⟩, fun w8 => by exfalso; omega⟩
      generalize hE C t x = a at bx
      generalize hE C t y = b at by'
      generalize hE C t z = c at bz
      unfold jmx
      have : (if (if (0 : Int) < a then a else 0) < b then b else (if (0 : Int) < a then a else 0)) = (if a < b then b else a) := by (repeat' split) <;> omega
      rw [this]
      have : (if (if a < b then b else a) < c then c else (if a < b then b else a)) = (if a < (if b < c then c else b) then (if b < c then c else b) else a) := by (repeat' split) <;> omega
      rw [this]
      have : (if a < (if b < c then c else b) then (if b < c then c else b) else a) ≤ C t 0 1 ∧ 0 ≤ (if a < (if b < c then c else b) then (if b < c then c else b) else a) := by (repeat' split) <;> omega
      rw [jwr_id (by omega) (by omega)]
      omega
theorem m_put {C M : jM} {t k x y z y' z' m : Int} (hL : jLV C) (hRL : rL C M) (hRT : rT C M t) (hG : jGood C t) (ht : 0 ≤ t ∧ t < 15) (hk : isK k) (hlt : C t 0 1 < 14) (hx : eOk C t k x 0) (hy : eOk C t k y 1) (hz : eOk C t k z 2) (ey : 2 ≤ C 19 1 k → y' = y) (ez : 3 ≤ C 19 1 k → z' = z) : jCallP 2 63 [.inr (28, 0), .inl t, .inl k, .inl x, .inl y', .inl z', .inl m] M (fun _ M' => rT (jput C t k x y z m) M' t ∧ own t M M' ∧ M' 28 8 t = M 28 8 t) := by
  have n1 := hG.1.2.1.1
  have n2 := hG.1.2.1.2
  have hh := m_heightOf (M := M) hL hRL hRT hG ht hk hx hy hz ey ez
  have RT := hRT
  obtain ⟨r6, r9, r7, r10⟩ := hRT
  obtain ⟨⟨c1, c3⟩, -⟩ := hL k hk.1 hk.2
  have p1 := (hRL k hk.1 hk.2).1
  have bk1 : 0 ≤ k ∧ k < jal 28 1 := by rw [jal_28_1]; exact hk
  obtain ⟨x1, x2, x3, x4⟩ := hx
  obtain ⟨y1, y2, y3, y4⟩ := hy
  obtain ⟨z1, z2, z3, z4⟩ := hz
  obtain ⟨j0, j1, j2, j4, j5, ⟨q5, q7, q8⟩, j6, s0, s1, s2⟩ := jput_r (M := C) (g := t) (k := k) (x := x) (y := y) (z := z) (m := m)
  generalize hB : 84 * t + 6 * C t 0 1 = B
  have w : ∀ c, 0 ≤ c → c ≤ 5 → jwr (B + c) = B + c := fun c c0 c1 => jwr_id (by omega) (by omega)
  have b10 : ∀ c, 0 ≤ c → c ≤ 5 → 0 ≤ B + c ∧ B + c < jal 28 10 := fun c c0 c1 => by rw [jal_28_10]; omega
  have b100 : 0 ≤ B ∧ B < jal 28 10 := by rw [jal_28_10]; omega
  refine jstart (by decide) rfl (fX10_put_0 ⟨by rw [jal_28_9]; exact ht, ?_⟩)
  rw [r9]
  refine jc (m_at M (t := t) (e := C t 0 1) ht (by omega)) (by decide) ?_
  refine jc hh (by decide) ?_
  rw [hB, w 5 (by omega) (by omega), w 1 (by omega) (by omega), w 2 (by omega) (by omega)]
  have n1' : ∀ (N : jM) j v, jup N 28 10 j v 28 1 k = N 28 1 k := fun N j v => jup_ne (by simp)
  rw [n1', n1', n1', p1]
  refine ⟨b10 5 (by omega) (by omega), b100, b10 1 (by omega) (by omega), bk1, ?_⟩
  generalize hM1 : jup (jup (jup M 28 10 (B + 5) (hTie C t x y z)) 28 10 B k) 28 10 (B + 1) x = M1
  have o1 : own t M M1 := by rw [← hM1]; exact ((own_10 (by omega)).tr (own_10 (by omega))).tr (own_10 (by omega))
  have a5 : M1 28 10 (B + 5) = hTie C t x y z := by rw [← hM1, jup_ne (by omega), jup_ne (by omega), jup_eq]
  have a0 : M1 28 10 B = k := by rw [← hM1, jup_ne (by omega), jup_eq]
  have a1 : M1 28 10 (B + 1) = x := by rw [← hM1, jup_eq]
  have ao : ∀ c, c < B → M1 28 10 c = M 28 10 c := fun c h => by rw [← hM1, jup_ne (by omega), jup_ne (by omega), jup_ne (by omega)]
  have a7 : ∀ y, ¬ y = 10 → M1 28 y = M 28 y := fun y h => by rw [← hM1, jup_set, jset_ne (by omega), jup_set, jset_ne (by omega), jup_set, jset_ne (by omega)]
  have k101 : ∀ u v, u = jno y → v = jno z → jWP 2 63 101 [some (.inr (28, 0)), some (.inl t), none, none, none, none, some (.inl m), some (.inl B)] [.inl v, .inl (B + 3), .inr (28, 10)] (jup M1 28 10 (B + 2) u) (fun _ M' => rT (jput C t k x y z m) M' t ∧ own t M M' ∧ M' 28 8 t = M 28 8 t) := by
    intro u v hu hv
    refine fX10_put_101 ⟨b10 3 (by omega) (by omega), ?_⟩
    rw [w 4 (by omega) (by omega)]
    have n9 : ∀ (N : jM) j v, jup N 28 10 j v 28 9 t = N 28 9 t := fun N j v => jup_ne (by simp)
    rw [n9, n9, n9, a7 9 (by decide), r9, jwr_id (by omega) (by omega)]
    refine ⟨b10 4 (by omega) (by omega), by rw [jal_28_9]; exact ht, by rw [jal_28_9]; exact ht, ?_⟩
    generalize hM2 : jup (jup (jup (jup M1 28 10 (B + 2) u) 28 10 (B + 3) v) 28 10 (B + 4) m) 28 9 t (C t 0 1 + 1) = M2
    have e10 : ∀ c, M2 28 10 c = if c = B + 4 then m else if c = B + 3 then v else if c = B + 2 then u else M1 28 10 c := fun c => by
      rw [← hM2, jup_ne (by simp)]
      by_cases h4 : c = B + 4
      · rw [if_pos h4, h4, jup_eq]
      · rw [if_neg h4, jup_ne (by omega)]
        by_cases h3 : c = B + 3
        · rw [if_pos h3, h3, jup_eq]
        · rw [if_neg h3, jup_ne (by omega)]
          by_cases h2 : c = B + 2
          · rw [if_pos h2, h2, jup_eq]
          · rw [if_neg h2, jup_ne (by omega)]
    have e9 : M2 28 9 t = C t 0 1 + 1 := by rw [← hM2, jup_eq]
    have eo : ∀ y, ¬ y = 10 → ¬ y = 9 → M2 28 y = M 28 y := fun y h h' => by rw [← hM2, jup_set, jset_ne (by omega), jup_set, jset_ne (by omega), jup_set, jset_ne (by omega), jup_set, jset_ne (by omega), a7 y h]
    refine ⟨⟨by rw [eo 6 (by decide) (by decide), j0, r6], by rw [e9, j1], fun c c0 c1 => by rw [eo 7 (by decide) (by decide), j4]; rw [j0] at c1; exact r7 c c0 c1, fun i i0 i1 => ?_⟩, ?_, by rw [eo 8 (by decide) (by decide)]⟩
    · rw [j1] at i1
      by_cases h : i = C t 0 1
      · rw [h, hB, q5, q7, q8, s0, s1, s2]
        rw [e10 B, if_neg (by omega), if_neg (by omega), if_neg (by omega), a0, e10 (B + 1), if_neg (by omega), if_neg (by omega), if_neg (by omega), a1, e10 (B + 2), if_neg (by omega), if_neg (by omega), if_pos rfl, e10 (B + 3), if_neg (by omega), if_pos rfl, e10 (B + 4), if_pos rfl, e10 (B + 5), if_neg (by omega), if_neg (by omega), if_neg (by omega), a5]
        exact ⟨rfl, (jno_ge (by omega)).symm, hu, hv, rfl, rfl⟩
      · have old : ∀ c, 0 ≤ c → c ≤ 5 → M2 28 10 (84 * t + 6 * i + c) = M 28 10 (84 * t + 6 * i + c) := fun c c0 c1 => by rw [e10, if_neg (by omega), if_neg (by omega), if_neg (by omega), ao _ (by omega)]
        have o0 := old 0 (by omega) (by omega)
        rw [Int.add_zero] at o0
        rw [o0, old 1 (by omega) (by omega), old 2 (by omega) (by omega), old 3 (by omega) (by omega), old 4 (by omega) (by omega), old 5 (by omega) (by omega), (j5 i (by omega)).1, (j5 i (by omega)).2.1, (j5 i (by omega)).2.2, j6 _ (by omega), j6 _ (by omega), j6 _ (by omega)]
        exact r10 i i0 (by omega)
    · rw [← hM2]
      exact o1.tr ((((own_10 (by omega)).tr (own_10 (by omega))).tr (own_10 (by omega))).tr own_9)
  have k75 : ∀ u, u = jno y → jWP 2 63 75 [some (.inr (28, 0)), some (.inl t), some (.inl k), none, none, some (.inl z'), some (.inl m), some (.inl B)] [.inl u, .inl (B + 2), .inr (28, 10)] M1 (fun _ M' => rT (jput C t k x y z m) M' t ∧ own t M M' ∧ M' 28 8 t = M 28 8 t) := by
    intro u hu
    refine fX10_put_75 ⟨b10 2 (by omega) (by omega), bk1, ?_⟩
    rw [n1', a7 1 (by decide), p1, w 3 (by omega) (by omega)]
    exact ⟨fun h => k101 u (-6) hu (by rw [z4.mpr h]; rfl), fun h => k101 u z' hu (by rw [ez (by omega), jno_ge (by omega)])⟩
  exact ⟨fun h => k75 (-6) (by rw [y4.mpr h]; rfl), fun h => k75 y' (by rw [ey (by omega), jno_ge (by omega)])⟩
