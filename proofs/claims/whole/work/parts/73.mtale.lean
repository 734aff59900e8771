/-! the reference: tales -/
def own (t : Int) (M M' : jM) : Prop := (∀ y, ¬ (6 ≤ y ∧ y ≤ 10) → M' 28 y = M 28 y) ∧ f28 M M' ∧ (∀ u, ¬ u = t → M' 28 6 u = M 28 6 u ∧ M' 28 9 u = M 28 9 u ∧ M' 28 8 u = M 28 8 u) ∧ (∀ c, (c < 6 * t ∨ 6 * t + 6 ≤ c) → M' 28 7 c = M 28 7 c) ∧ (∀ c, (c < 84 * t ∨ 84 * t + 84 ≤ c) → M' 28 10 c = M 28 10 c)
theorem own.tr {t : Int} {M M' M'' : jM} (h : own t M M') (h' : own t M' M'') : own t M M'' := by
  obtain ⟨a1, a2, a3, a4, a5⟩ := h
  obtain ⟨b1, b2, b3, b4, b5⟩ := h'
  refine ⟨fun y hy => by rw [b1 y hy, a1 y hy], a2.tr b2, fun u hu => ?_, fun c hc => by rw [b4 c hc, a4 c hc], fun c hc => by rw [b5 c hc, a5 c hc]⟩
  obtain ⟨p1, p2, p3⟩ := a3 u hu
  obtain ⟨q1, q2, q3⟩ := b3 u hu
  exact ⟨by rw [q1, p1], by rw [q2, p2], by rw [q3, p3]⟩
theorem own_r (t : Int) (M : jM) : own t M M := ⟨fun _ _ => rfl, f28_r M, fun _ _ => ⟨rfl, rfl, rfl⟩, fun _ _ => rfl, fun _ _ => rfl⟩
theorem own_6 {t v : Int} {M : jM} : own t M (jup M 28 6 t v) := ⟨fun y hy => by rw [jup_set, jset_ne (by omega)], f28_up, fun u hu => ⟨jup_ne (by omega), jup_ne (by simp), jup_ne (by simp)⟩, fun c _ => jup_ne (by simp), fun c _ => jup_ne (by simp)⟩
theorem own_8 {t v : Int} {M : jM} : own t M (jup M 28 8 t v) := ⟨fun y hy => by rw [jup_set, jset_ne (by omega)], f28_up, fun u hu => ⟨jup_ne (by simp), jup_ne (by simp), jup_ne (by omega)⟩, fun c _ => jup_ne (by simp), fun c _ => jup_ne (by simp)⟩
theorem own_9 {t v : Int} {M : jM} : own t M (jup M 28 9 t v) := ⟨fun y hy => by rw [jup_set, jset_ne (by omega)], f28_up, fun u hu => ⟨jup_ne (by simp), jup_ne (by omega), jup_ne (by simp)⟩, fun c _ => jup_ne (by simp), fun c _ => jup_ne (by simp)⟩
theorem own_7 {t j v : Int} {M : jM} (h : 6 * t ≤ j ∧ j < 6 * t + 6) : own t M (jup M 28 7 j v) := ⟨fun y hy => by rw [jup_set, jset_ne (by omega)], f28_up, fun u hu => ⟨jup_ne (by simp), jup_ne (by simp), jup_ne (by simp)⟩, fun c _ => jup_ne (by omega), fun c _ => jup_ne (by simp)⟩
theorem own_10 {t j v : Int} {M : jM} (h : 84 * t ≤ j ∧ j < 84 * t + 84) : own t M (jup M 28 10 j v) := ⟨fun y hy => by rw [jup_set, jset_ne (by omega)], f28_up, fun u hu => ⟨jup_ne (by simp), jup_ne (by simp), jup_ne (by simp)⟩, fun c _ => jup_ne (by simp), fun c _ => jup_ne (by omega)⟩
/-- another tale stays -/
theorem own.tl {t u : Int} {C C' M M' : jM} (h : own t M M') (hu : ¬ u = t) (hN : jNB C u) (hR : rT C M u) (hC : C' u = C u) : rT C' M' u := by
  obtain ⟨-, -, a3, a4, a5⟩ := h
  obtain ⟨r6, r9, r7, r10⟩ := hR
  have n1 := hN.1
  have n2 := hN.2
  unfold rT
  rw [hC, (a3 u hu).1, (a3 u hu).2.1]
  refine ⟨r6, r9, fun x x0 x1 => by rw [a4 _ (by omega)]; exact r7 x x0 x1, fun i i0 i1 => ?_⟩
  rw [a5 _ (by omega), a5 _ (by omega), a5 _ (by omega), a5 _ (by omega), a5 _ (by omega), a5 _ (by omega)]
  exact r10 i i0 i1
theorem own.lg {t : Int} {C C' M M' : jM} (h : own t M M') (hR : rL C M) (hC : C' 19 = C 19) : rL C' M' := fun k k0 k1 => by
  rw [h.1 1 (by omega), h.1 2 (by omega), h.1 3 (by omega), h.1 4 (by omega), hC]
  exact hR k k0 k1
/-- one tale changes -/
theorem own.re {t : Int} {C C' M M' : jM} (h : own t M M') (ht : 0 ≤ t ∧ t < 12) (hI : Inv C) (hR : rel C M) (hC : ∀ x y, ¬ (x = t ∨ x = 14 ∨ (20 ≤ x ∧ x ≤ 22) ∨ x = 26) → C' x y = C x y) (hT : rT C' M' t) (hB : M' 28 8 t = C' t 0 2) : rel C' M' := by
  obtain ⟨h1, h2, h3, h4, h5⟩ := hR
  have e : ∀ g, ¬ (g = t ∨ g = 14 ∨ (20 ≤ g ∧ g ≤ 22) ∨ g = 26) → C' g = C g := fun g hg => by funext y; exact hC g y hg
  refine ⟨h.lg h1 (e 19 (by omega)), fun u u0 u1 => ?_, fun u u0 u1 => ?_, h4.fx (e 23 (by omega)) (hC 12 0 (by omega)) ?_ (h.1 21 (by omega)) (h.1 22 (by omega)), h5.fx (hC 18 0 (by omega)) (h.1 0 (by omega))⟩
  · by_cases v : u = t
    · rw [v]; exact hT
    · exact h.tl v (hI.N u0 u1) (h2 u u0 u1) (e u (by omega))
  · by_cases v : u = t
    · rw [v]; exact hB
    · rw [(h.2.2.1 u v).2.2, hC u 0 (by omega)]; exact h3 u u0 u1
  · rw [h.1 0 (by omega)]; exact ⟨rfl, rfl, rfl⟩
theorem m_empty {M : jM} {t n : Int} (ht : 0 ≤ t ∧ t < 15) : jCallP 0 55 [.inr (28, 0), .inl t, .inl n] M (fun _ M' => M' 28 6 t = n ∧ M' 28 9 t = 0 ∧ M' 28 8 t = 0 ∧ (∀ x, 0 ≤ x → x < 6 → M' 28 7 (6 * t + x) = 0) ∧ own t M M') := by
  refine jstart (by decide) rfl (fX10_empty_0 ⟨by rw [jal_28_6]; exact ht, by rw [jal_28_9]; exact ht, by rw [jal_28_8]; exact ht, ?_⟩)
  have key : ∀ v, 0 ≤ v → v ≤ 6 → ∀ N : jM, N 28 6 t = n → N 28 9 t = 0 → N 28 8 t = 0 → (∀ x, 0 ≤ x → x < v → N 28 7 (6 * t + x) = 0) → own t M N → jWP 0 55 23 [some (.inr (28, 0)), some (.inl t), none, some (.inl v)] [] N (fun _ M' => M' 28 6 t = n ∧ M' 28 9 t = 0 ∧ M' 28 8 t = 0 ∧ (∀ x, 0 ≤ x → x < 6 → M' 28 7 (6 * t + x) = 0) ∧ own t M M') := by
    refine jloop (e := 6) (fun N a b c d e => ?_) (fun v v0 v1 ih N a b c d e => ?_)
    · exact fX10_empty_23 ⟨fun _ => ⟨a, b, c, d, e⟩, fun z => by exfalso; omega⟩
    · have w : jwr (jwr (6 * t) + v) = 6 * t + v := by rw [jwr_id (z := 6 * t) (by omega) (by omega), jwr_id (by omega) (by omega)]
      refine fX10_empty_23 ⟨fun z => by exfalso; omega, fun _ => ?_⟩
      rw [w, jwr_id (by omega) (by omega)]
      refine ⟨⟨by omega, by rw [jal_28_7]; omega⟩, ih _ (by rw [jup_ne (by simp)]; exact a) (by rw [jup_ne (by simp)]; exact b) (by rw [jup_ne (by simp)]; exact c) (fun x x0 x1 => ?_) (e.tr (own_7 (by omega)))⟩
      by_cases u : x = v
      · rw [u, jup_eq]
      · rw [jup_ne (by omega)]; exact d x x0 (by omega)
  exact key 0 (by omega) (by omega) _ (by rw [jup_ne (by simp), jup_ne (by simp), jup_eq]) (by rw [jup_ne (by simp), jup_eq]) (by rw [jup_eq]) (fun x x0 x1 => by omega) ((own_6.tr own_9).tr own_8)
theorem m_isThing {C M : jM} {t x : Int} (ht : 0 ≤ t ∧ t < 15) (hN : jNB C t) (hR : rT C M t) : jCallP 1 57 [.inr (28, 0), .inl t, .inl x] M (fun r M' => r = (if 0 ≤ x ∧ x < C t 0 0 then 1 else 0) ∧ M' = M) := by
  have n1 := hN.1
  refine jstart (by decide) rfl (fX10_isThing_0 ⟨by rw [jal_28_6]; exact ht, ?_⟩)
  rw [hR.1, jwr_id (by omega) (by omega)]
  refine jc (m_in M x 0 _) (by decide) ⟨jite_01, ?_, rfl⟩
  by_cases h : 0 ≤ x ∧ x < C t 0 0
  · rw [if_pos h, if_pos (by omega)]
  · rw [if_neg h, if_neg (by omega)]
theorem m_isEnd {C M : jM} {t e : Int} (ht : 0 ≤ t ∧ t < 15) (hN : jNB C t) (hR : rT C M t) : jCallP 2 60 [.inr (28, 0), .inl t, .inl e] M (fun r M' => jBl r (isE C t e) ∧ M' = M) := by
  have n2 := hN.2
  refine jstart (by decide) rfl (fX10_isEnd_0 (jc (m_isThing ht hN hR) (by decide) ⟨fun z => ⟨Or.inr rfl, Or.inl ⟨rfl, Or.inl (jite_ne.mp z)⟩, rfl⟩, fun z => ⟨by rw [jal_28_9]; exact ht, ?_⟩⟩))
  have hno := jite_eq.mp z
  rw [hR.2.1, jwr_id (by omega) (by omega)]
  refine jc (m_in M e 10 _) (by decide) ⟨fun z2 => ⟨Or.inl rfl, Or.inr ⟨rfl, fun h => ?_⟩, rfl⟩, fun z2 => ⟨Or.inr rfl, Or.inl ⟨rfl, Or.inr ?_⟩, rfl⟩⟩
  · exact jite_eq.mp z2 (h.elim (fun h => absurd h hno) (fun h => by omega))
  · have := jite_ne.mp z2; omega
def em (x x' : Int) : Prop := (x' = x ∧ 0 ≤ x) ∨ (x' < 0 ∧ x < 0)
/-- an end of a tie of n ends at place q, for the class and for the reference -/
def eQ (n q x x' : Int) : Prop := (q < n → em x x') ∧ (n ≤ q → x = -1)
theorem em_jno {e x x' : Int} (he : 0 ≤ e) (h : em x x') : jno e = x' ↔ e = x := by
  rw [jno_ge he]
  unfold em at h
  omega
theorem m_tieWith {C M : jM} {t k x y z x' y' z' : Int} (hL : jLV C) (hRL : rL C M) (hRT : rT C M t) (hG : jGood C t) (ht : 0 ≤ t ∧ t < 15) (hk : isK k) (hx : eQ (C 19 1 k) 0 x x') (hy : eQ (C 19 1 k) 1 y y') (hz : eQ (C 19 1 k) 2 z z') : jCallP 1 61 [.inr (28, 0), .inl t, .inl k, .inl x', .inl y', .inl z'] M (fun r M' => r = jno (fnd C t k x y z) ∧ M' = M) := by
  obtain ⟨⟨-, ⟨-, n1, n2⟩, -⟩, hEn, -, -, hC⟩ := hG
  obtain ⟨-, r9, -, r10⟩ := hRT
  obtain ⟨⟨c1, c3⟩, c2, ce, -⟩ := hL k hk.1 hk.2
  obtain ⟨p1, p2, -⟩ := hRL k hk.1 hk.2
  have bk1 : 0 ≤ k ∧ k < jal 28 1 := by rw [jal_28_1]; exact hk
  have bk2 : 0 ≤ k ∧ k < jbl 28 2 := by rw [jbl_28_2]; exact hk
  have hx0 := hx.1 (by omega)
  refine jstart (by decide) rfl (fX10_tieWith_0 ?_)
  have key : ∀ i, 0 ≤ i → i ≤ C t 0 1 → (∀ j, 0 ≤ j → j < i → ¬ mtie C t k x y z j) → jWP 1 61 3 [some (.inr (28, 0)), some (.inl t), some (.inl k), some (.inl x'), some (.inl y'), some (.inl z'), some (.inl i), none, none, none] [] M (fun r M' => r = jno (fnd C t k x y z) ∧ M' = M) := by
    refine jloop (e := C t 0 1) (fun hno => ?_) (fun i i0 i1 ih hno => ?_)
    · refine fX10_tieWith_3 ⟨by rw [jal_28_9]; exact ht, fun _ => ⟨?_, rfl⟩, fun q => by rw [r9] at q; exfalso; omega⟩
      rw [show fnd C t k x y z = -1 from jfst_none (fun j j0 j1 => hno j j0 (by omega))]
      rfl
    · obtain ⟨q0, q1, q2, q3, q4, q5⟩ := r10 i i0 i1
      have w : ∀ c, 0 ≤ c → c ≤ 5 → jwr (84 * t + 6 * i + c) = 84 * t + 6 * i + c := fun c c0 c1 => jwr_id (by omega) (by omega)
      have b10 : ∀ c, 0 ≤ c → c ≤ 5 → 0 ≤ 84 * t + 6 * i + c ∧ 84 * t + 6 * i + c < jal 28 10 := fun c c0 c1 => by rw [jal_28_10]; omega
      have b100 : 0 ≤ 84 * t + 6 * i ∧ 84 * t + 6 * i < jal 28 10 := by rw [jal_28_10]; omega
      have pr : C t 5 i = k → ∀ q, 0 ≤ q → q < 3 → ((q < C 19 1 k → 0 ≤ C t 6 (3 * i + q)) ∧ (C 19 1 k ≤ q → C t 6 (3 * i + q) = -1)) := fun hk' q q0 q1 => by
        have h1 := hC i q i0 i1 q0 q1
        have h2 := hEn i q i0 i1 q0 q1
        rw [hk'] at h1
        omega
      -- the end of the comparison
      have k131 : ∀ v8 s0, (C t 5 i = k → (¬ v8 = 0 ↔ (C t 6 (3 * i) = x ∧ C t 6 (3 * i + 1) = y ∧ C t 6 (3 * i + 2) = z))) → (C t 5 i = k → (¬ s0 = 0 ↔ (¬ C 19 2 k = 0 ∧ C t 6 (3 * i) = y ∧ C t 6 (3 * i + 1) = x))) → jWP 1 61 131 [some (.inr (28, 0)), some (.inl t), some (.inl k), some (.inl x'), some (.inl y'), some (.inl z'), some (.inl i), some (.inl (84 * t + 6 * i)), some (.inl v8), none] [.inl s0] M (fun r M' => r = jno (fnd C t k x y z) ∧ M' = M) := by
        intro v8 s0 h8 hs
        have next : ¬ mtie C t k x y z i → jWP 1 61 3 [some (.inr (28, 0)), some (.inl t), some (.inl k), some (.inl x'), some (.inl y'), some (.inl z'), some (.inl (jwr (i + 1))), none, none, none] [] M (fun r M' => r = jno (fnd C t k x y z) ∧ M' = M) := fun h => by
          rw [jwr_id (by omega) (by omega)]
          refine ih (fun j j0 j1 => ?_)
          by_cases u : j = i
          · rw [u]; exact h
          · exact hno j j0 (by omega)
        have hit : mtie C t k x y z i → i = jno (fnd C t k x y z) ∧ M = M := fun h => by
          rw [show fnd C t k x y z = i from jfst_is i0 (by omega) h hno, jno_ge i0]
          exact ⟨rfl, rfl⟩
        refine fX10_tieWith_131 ⟨b100, fun e => next (fun h => e (by rw [q0]; exact h.1)), fun e => ?_⟩
        rw [q0] at e
        exact ⟨fun e2 => hit ⟨e, Or.inl ((h8 e).mp e2)⟩, fun e2 => ⟨fun e3 => next (fun h => h.2.elim (fun h => (h8 e).mpr h e2) (fun h => (hs e).mpr h e3)), fun e3 => hit ⟨e, Or.inr ((hs e).mp e3)⟩⟩⟩
      have k88 : ∀ v8, (C t 5 i = k → (¬ v8 = 0 ↔ (C t 6 (3 * i) = x ∧ C t 6 (3 * i + 1) = y ∧ C t 6 (3 * i + 2) = z))) → jWP 1 61 88 [some (.inr (28, 0)), some (.inl t), some (.inl k), some (.inl x'), some (.inl y'), some (.inl z'), some (.inl i), some (.inl (84 * t + 6 * i)), none, none] [.inl v8] M (fun r M' => r = jno (fnd C t k x y z) ∧ M' = M) := by
        intro v8 h8
        refine fX10_tieWith_88 ⟨bk2, fun e => k131 v8 0 h8 (fun _ => ⟨fun q => absurd rfl q, fun h => absurd (by rw [← p2]; exact e) h.1⟩), fun e => ?_⟩
        rw [p2] at e
        have e2 := ce (by omega)
        rw [w 1 (by omega) (by omega), w 2 (by omega) (by omega), q1, q2]
        have t0 : C t 5 i = k → (jno (C t 6 (3 * i)) = y' ↔ C t 6 (3 * i) = y) := fun h => by
          have := (pr h 0 (by omega) (by omega)).1 (by omega)
          rw [Int.add_zero] at this
          exact em_jno this (hy.1 (by omega))
        have t1 : C t 5 i = k → (jno (C t 6 (3 * i + 1)) = x' ↔ C t 6 (3 * i + 1) = x) := fun h => em_jno ((pr h 1 (by omega) (by omega)).1 (by omega)) hx0
        exact ⟨b10 1 (by omega) (by omega), fun e3 => k131 v8 0 h8 (fun h => ⟨fun q => absurd rfl q, fun h' => absurd ((t0 h).mpr h'.2.1) e3⟩), fun e3 => ⟨b10 2 (by omega) (by omega), fun e4 => k131 v8 0 h8 (fun h => ⟨fun q => absurd rfl q, fun h' => absurd ((t1 h).mpr h'.2.2) e4⟩), fun e4 => k131 v8 1 h8 (fun h => ⟨fun _ => ⟨e, (t0 h).mp e3, (t1 h).mp e4⟩, fun _ => by decide⟩)⟩⟩
      have s0 : C t 5 i = k → (jno (C t 6 (3 * i)) = x' ↔ C t 6 (3 * i) = x) := fun h => by
        have := (pr h 0 (by omega) (by omega)).1 (by omega)
        rw [Int.add_zero] at this
        exact em_jno this hx0
      have s1 : C t 5 i = k → 1 < C 19 1 k → (jno (C t 6 (3 * i + 1)) = y' ↔ C t 6 (3 * i + 1) = y) := fun h h2 => em_jno ((pr h 1 (by omega) (by omega)).1 h2) (hy.1 h2)
      have s2 : C t 5 i = k → 2 < C 19 1 k → (jno (C t 6 (3 * i + 2)) = z' ↔ C t 6 (3 * i + 2) = z) := fun h h2 => em_jno ((pr h 2 (by omega) (by omega)).1 h2) (hz.1 h2)
      have s1' : C t 5 i = k → C 19 1 k ≤ 1 → C t 6 (3 * i + 1) = y := fun h h2 => by rw [(pr h 1 (by omega) (by omega)).2 h2, hy.2 h2]
      have s2' : C t 5 i = k → C 19 1 k ≤ 2 → C t 6 (3 * i + 2) = z := fun h h2 => by rw [(pr h 2 (by omega) (by omega)).2 h2, hz.2 h2]
      have k59 : (C t 5 i = k → C t 6 (3 * i) = x ∧ C t 6 (3 * i + 1) = y) → jWP 1 61 59 [some (.inr (28, 0)), some (.inl t), some (.inl k), some (.inl x'), some (.inl y'), some (.inl z'), some (.inl i), some (.inl (84 * t + 6 * i)), none, none] [] M (fun r M' => r = jno (fnd C t k x y z) ∧ M' = M) := by
        intro h
        refine fX10_tieWith_59 ⟨bk1, ?_⟩
        rw [p1, w 3 (by omega) (by omega), q3]
        exact ⟨fun e => k88 1 (fun hh => ⟨fun _ => ⟨(h hh).1, (h hh).2, s2' hh (by omega)⟩, fun _ => by decide⟩), fun e => ⟨b10 3 (by omega) (by omega), fun e2 => k88 0 (fun hh => ⟨fun q => absurd rfl q, fun h' => absurd ((s2 hh (by omega)).mpr h'.2.2) e2⟩), fun e2 => k88 1 (fun hh => ⟨fun _ => ⟨(h hh).1, (h hh).2, (s2 hh (by omega)).mp e2⟩, fun _ => by decide⟩)⟩⟩
      refine fX10_tieWith_3 ⟨by rw [jal_28_9]; exact ht, fun q => by rw [r9] at q; exfalso; omega, fun _ => jc (m_at M (t := t) (e := i) ht (by omega)) (by decide) ?_⟩
      rw [w 1 (by omega) (by omega), w 2 (by omega) (by omega), q1, q2, p1]
      exact ⟨b10 1 (by omega) (by omega), fun e => k88 0 (fun hh => ⟨fun q => absurd rfl q, fun h' => absurd ((s0 hh).mpr h'.1) e⟩), fun e => ⟨bk1, fun e2 => k59 (fun hh => ⟨(s0 hh).mp e, s1' hh (by omega)⟩), fun e2 => ⟨b10 2 (by omega) (by omega), fun e3 => k88 0 (fun hh => ⟨fun q => absurd rfl q, fun h' => absurd ((s1 hh (by omega)).mpr h'.2.1) e3⟩), fun e3 => k59 (fun hh => ⟨(s0 hh).mp e, (s1 hh (by omega)).mp e3⟩)⟩⟩⟩
  exact key 0 (by omega) n1 (fun j j0 j1 => by omega)
