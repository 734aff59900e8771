/-! the reference: tie, ofTie, ofTale, become, copy, tale, sort, label -/
theorem isE_ok {C : jM} {t e : Int} (hN : jNB C t) (h : isE C t e) : 0 ≤ e ∧ (e < 10 → e < C t 0 0) ∧ e < 10 + C t 0 1 := by
  have := hN.1
  have := hN.2
  unfold isE at h
  omega
theorem m_tie {C M C' : jM} {t k x y z m r0 : Int} (hI : Inv C) (hR : rel C M) (hs : s_tie C t k x y z m r0 C') : jCallP 3 64 [.inr (28, 0), .inl t, .inl k, .inl x, .inl y, .inl z, .inl m] M (fun r M' => r = r0 ∧ rel C' M' ∧ f28 M M') := by
  have hL := hI.L
  refine jstart (by decide) rfl (fX10_tie_0 ?_)
  refine jc (m_isTale M t) (by decide) ⟨fun q => ?_, fun q => ?_⟩
  · obtain ⟨e1, rfl⟩ := jif_n hs (fun h => jite_eq.mp q h.1)
    exact ⟨e1.symm, hR, f28_r M⟩
  have ht := jite_ne.mp q
  refine jc (m_isKind M k) (by decide) ⟨fun q => ?_, fun q => ?_⟩
  rotate_left
  · obtain ⟨e1, rfl⟩ := jif_n hs (fun h => jite_eq.mp q h.2)
    exact ⟨e1.symm, hR, f28_r M⟩
  have hk := jite_ne.mp q
  have hs := jif_y hs ⟨ht, hk⟩
  have hN := hI.N ht.1 (by omega)
  have hG := hI.G ht.1 (by omega)
  have RT := hR.2.1 t ht.1 (by omega)
  have p1 := (hR.1 k hk.1 hk.2).1
  obtain ⟨⟨c1, c3⟩, -⟩ := hL k hk.1 hk.2
  have bk1 : 0 ≤ k ∧ k < jal 28 1 := by rw [jal_28_1]; exact hk
  have t9 : 0 ≤ t ∧ t < jal 28 9 := by rw [jal_28_9]; omega
  have no : ¬ ((m = -1 ∨ (0 ≤ m ∧ m < 10)) ∧ hasE C t (C 19 1 k) x y z) → jWP 3 64 111 [some (.inr (28, 0)), some (.inl t), some (.inl k), some (.inl x), some (.inl y), some (.inl z), some (.inl m), none] [.inl 0] M (fun r M' => r = r0 ∧ rel C' M' ∧ f28 M M') := fun h => fX10_tie_111 ⟨fun z => absurd rfl z, fun _ => by
    obtain ⟨e1, rfl⟩ := jif_n hs h
    exact ⟨e1.symm, hR, f28_r M⟩⟩
  have yes : ((m = -1 ∨ (0 ≤ m ∧ m < 10)) ∧ hasE C t (C 19 1 k) x y z) → jWP 3 64 111 [some (.inr (28, 0)), some (.inl t), some (.inl k), some (.inl x), some (.inl y), some (.inl z), some (.inl m), none] [.inl 1] M (fun r M' => r = r0 ∧ rel C' M' ∧ f28 M M') := fun h => by
    have hs := jif_y hs h
    obtain ⟨hm, h1, h2, h3, h4, h5⟩ := h
    have x1 := isE_ok hN h1
    have ox : eOk C t k x 0 := ⟨by omega, x1.2.1, x1.2.2, by omega⟩
    have oy : eOk C t k y 1 := by
      by_cases u : 2 ≤ C 19 1 k
      · have := isE_ok hN (h2 u)
        exact ⟨by omega, this.2.1, this.2.2, by omega⟩
      · have := h3 (by omega)
        have := hN.2
        have := hN.1
        exact ⟨by omega, by omega, by omega, by omega⟩
    have oz : eOk C t k z 2 := by
      by_cases u : 3 ≤ C 19 1 k
      · have := isE_ok hN (h4 u)
        exact ⟨by omega, this.2.1, this.2.2, by omega⟩
      · have := h5 (by omega)
        have := hN.2
        have := hN.1
        exact ⟨by omega, by omega, by omega, by omega⟩
    have qq : ∀ v q, eOk C t k v q → eQ (C 19 1 k) q v v := fun v q h => by
      obtain ⟨a, b, c, d⟩ := h
      exact ⟨fun w => Or.inl ⟨rfl, by omega⟩, fun w => d.mpr w⟩
    refine fX10_tie_111 ⟨fun _ => ⟨t9, ?_⟩, fun z => absurd z (by decide)⟩
    rw [RT.2.1]
    refine ⟨fun z1 => ?_, fun z1 => ?_⟩
    rotate_left
    · obtain ⟨e1, rfl⟩ := jif_y hs (by omega)
      exact ⟨e1.symm, hR, f28_r M⟩
    have hs := jif_n hs (by have := hN.2; omega)
    refine jc (m_tieWith (M := M) hL hR.1 RT hG (by omega) hk (qq x 0 ox) (qq y 1 oy) (qq z 2 oz)) (by decide) ⟨fun z2 => ?_, fun z2 => ?_⟩
    rotate_left
    · obtain ⟨e1, rfl⟩ := jif_n hs (fun h => by rw [h] at z2; exact absurd z2 (by decide))
      exact ⟨e1.symm, hR, f28_r M⟩
    have fb := jfst_bd (mtie C t k x y z) (C t 0 1).toNat
    obtain ⟨e1, rfl⟩ := jif_y hs ((jno_lt (show -1 ≤ fnd C t k x y z from fb.1)).mp z2)
    refine jcq (m_put (M := M) (m := m) hL hR.1 RT hG (by omega) hk (by have := hN.2; omega) ox oy oz (fun _ => rfl) (fun _ => rfl)) (by decide) ?_
    rintro r2 M2 ⟨RT2, o2, l2⟩
    have jr := jput_r (M := C) (g := t) (k := k) (x := x) (y := y) (z := z) (m := m)
    have n2 := hN.2
    refine ⟨t9, ?_, o2.re ht hI hR (fun a b h => jput_at (by omega)) RT2 (by rw [l2, hR.2.2.1 t ht.1 ht.2, jr.2.2.1]), o2.2.1⟩
    rw [RT2.2.1, jr.2.1, jwr_id (by omega) (by omega), e1]
    omega
  have k77 : (m = -1 ∨ (0 ≤ m ∧ m < 10)) → isE C t x → (2 ≤ C 19 1 k → isE C t y) → (C 19 1 k < 2 → y = -1) → jWP 3 64 77 [some (.inr (28, 0)), some (.inl t), some (.inl k), some (.inl x), some (.inl y), some (.inl z), some (.inl m), none] [] M (fun r M' => r = r0 ∧ rel C' M' ∧ f28 M M') := fun hm h1 h2 h3 => by
    refine fX10_tie_77 ⟨bk1, ?_⟩
    rw [p1]
    refine ⟨fun w => jcq (m_isEnd (M := M) (by omega) hN RT) (by decide) ?_, fun w => ⟨fun w2 => no (fun h => w2 (h.2.2.2.2.2 w)), fun w2 => yes ⟨hm, h1, h2, h3, fun w3 => by omega, fun _ => w2⟩⟩⟩
    rintro r M' ⟨bl, rfl⟩
    exact ⟨fun w2 => no (fun h => (jBl_eq bl).mp w2 (h.2.2.2.2.1 w)), fun w2 => yes ⟨hm, h1, h2, h3, fun _ => (jBl_ne bl).mp w2, fun w3 => by omega⟩⟩
  have k410 : ¬ ((m = -1 ∨ (0 ≤ m ∧ m < 10)) ∧ hasE C t (C 19 1 k) x y z) → jWP 3 64 41 [some (.inr (28, 0)), some (.inl t), some (.inl k), some (.inl x), some (.inl y), some (.inl z), some (.inl m), none] [.inl 0] M (fun r M' => r = r0 ∧ rel C' M' ∧ f28 M M') := fun h => fX10_tie_41 ⟨fun _ => no h, fun z => absurd rfl z⟩
  have k411 : (m = -1 ∨ (0 ≤ m ∧ m < 10)) → isE C t x → jWP 3 64 41 [some (.inr (28, 0)), some (.inl t), some (.inl k), some (.inl x), some (.inl y), some (.inl z), some (.inl m), none] [.inl 1] M (fun r M' => r = r0 ∧ rel C' M' ∧ f28 M M') := fun hm h1 => by
    refine fX10_tie_41 ⟨fun z => absurd z (by decide), fun _ => ⟨bk1, ?_⟩⟩
    rw [p1]
    refine ⟨fun w => jcq (m_isEnd (M := M) (by omega) hN RT) (by decide) ?_, fun w => ⟨fun w2 => no (fun h => w2 (h.2.2.2.1 w)), fun w2 => k77 hm h1 (fun w3 => by omega) (fun _ => w2)⟩⟩
    rintro r M' ⟨bl, rfl⟩
    exact ⟨fun w2 => no (fun h => (jBl_eq bl).mp w2 (h.2.2.1 w)), fun w2 => k77 hm h1 (fun _ => (jBl_ne bl).mp w2) (fun w3 => by omega)⟩
  refine jc (m_in M m (-1) 9) (by decide) ⟨fun w => k410 (fun h => jite_eq.mp w (by have := h.1; omega)), fun w => ?_⟩
  have hm := jite_ne.mp w
  refine jcq (m_isEnd (M := M) (by omega) hN RT) (by decide) ?_
  rintro r M' ⟨bl, rfl⟩
  exact ⟨fun w2 => k410 (fun h => (jBl_eq bl).mp w2 h.2.1), fun w2 => k411 (by omega) ((jBl_ne bl).mp w2)⟩
theorem m_ofTie {C M : jM} {t i w r0 : Int} (hI : Inv C) (hR : rel C M) (hs : s_ofTie C t i w r0) : jCallP 2 65 [.inr (28, 0), .inl t, .inl i, .inl w] M (fun r M' => r = r0 ∧ M' = M) := by
  refine jstart (by decide) rfl (fX10_ofTie_0 ?_)
  refine jc (m_isTale M t) (by decide) ⟨fun q => ⟨(jif_n hs (fun h => jite_eq.mp q h.1)).symm, rfl⟩, fun q => ?_⟩
  have ht := jite_ne.mp q
  have hN := hI.N ht.1 (by omega)
  have n2 := hN.2
  obtain ⟨-, r9, -, r10⟩ := hR.2.1 t ht.1 (by omega)
  refine ⟨by rw [jal_28_9]; omega, ?_⟩
  rw [r9, jwr_id (by omega) (by omega)]
  refine jc (m_in M i 0 _) (by decide) ⟨fun q => ?_, fun q => ⟨(jif_n hs (fun h => jite_eq.mp q (by omega))).symm, rfl⟩⟩
  have hi := jite_ne.mp q
  have hs := jif_y hs ⟨ht, by omega, by omega⟩
  refine jc (m_in M w 0 5) (by decide) ⟨fun q => ?_, fun q => ?_⟩
  · have hw := jite_eq.mp q
    exact ⟨(jif_n (jif_n (jif_n (jif_n hs (by omega)) (by omega)) (by omega)) (by omega)).symm, rfl⟩
  have hw := jite_ne.mp q
  refine jc (m_at M (t := t) (e := i) (by omega) (by omega)) (by decide) ?_
  obtain ⟨q0, q1, q2, q3, q4, q5⟩ := r10 i (by omega) (by omega)
  rw [jwr_id (by omega) (by omega)]
  refine ⟨by rw [jal_28_10]; omega, ?_, rfl⟩
  have cases : w = 0 ∨ w = 1 ∨ w = 2 ∨ w = 3 ∨ w = 4 ∨ w = 5 := by omega
  rcases cases with e | e | e | e | e | e
  · rw [jif_y hs e, e, Int.add_zero, q0]
  · rw [jif_y (jif_n hs (by omega)) (by omega), e, q1, show (3 * i + (1 - 1) : Int) = 3 * i by omega]
  · rw [jif_y (jif_n hs (by omega)) (by omega), e, q2, show (3 * i + (2 - 1) : Int) = 3 * i + 1 by omega]
  · rw [jif_y (jif_n hs (by omega)) (by omega), e, q3, show (3 * i + (3 - 1) : Int) = 3 * i + 2 by omega]
  · rw [jif_y (jif_n (jif_n hs (by omega)) (by omega)) e, e, q4]
  · rw [jif_y (jif_n (jif_n (jif_n hs (by omega)) (by omega)) (by omega)) e, e, q5]
theorem m_highest {C M : jM} {t : Int} (ht : 0 ≤ t ∧ t < 15) (hN : jNB C t) (hRT : rT C M t) : jCallP 1 66 [.inr (28, 0), .inl t] M (fun r M' => r = gmx (C t 8) (C t 0 1).toNat ∧ M' = M) := by
  have n2 := hN.2
  obtain ⟨-, r9, -, r10⟩ := hRT
  refine jstart (by decide) rfl (fX10_highest_0 ?_)
  have key : ∀ j n : Nat, ((n + j : Nat) : Int) = C t 0 1 → jWP 1 66 4 [some (.inr (28, 0)), some (.inl t), some (.inl (gmx (C t 8) n)), some (.inl (n : Int))] [] M (fun r M' => r = gmx (C t 8) (C t 0 1).toNat ∧ M' = M) := by
    intro j
    induction j with
    | zero =>
      intro n hn
      refine fX10_highest_4 ⟨by rw [jal_28_9]; exact ht, fun _ => ⟨?_, rfl⟩, fun z => by rw [r9] at z; exfalso; omega⟩
      rw [show (C t 0 1).toNat = n by omega]
    | succ j ih =>
      intro n hn
      have hi := ih (n + 1) (by omega)
      have en : (n : Int) + 1 = ((n + 1 : Nat) : Int) := by omega
      have e : gmx (C t 8) (n + 1) = if gmx (C t 8) n < C t 8 n then C t 8 n else gmx (C t 8) n := rfl
      have b : 0 ≤ 84 * t + 6 * (n : Int) + 5 ∧ 84 * t + 6 * (n : Int) + 5 < jal 28 10 := by rw [jal_28_10]; omega
      refine fX10_highest_4 ⟨by rw [jal_28_9]; exact ht, fun z => by rw [r9] at z; exfalso; omega, fun _ => jc (m_at M (t := t) (e := n) ht (by omega)) (by decide) ?_⟩
      rw [jwr_id (z := 84 * t + 6 * (n : Int) + 5) (by omega) (by omega), (r10 n (by omega) (by omega)).2.2.2.2.2]
      refine ⟨b, fun z => ?_, fun z => jc (m_at M (t := t) (e := n) ht (by omega)) (by decide) ?_⟩
      · rw [jwr_id (by omega) (by omega), en]
        rwa [e, if_neg (by omega)] at hi
      · rw [jwr_id (z := 84 * t + 6 * (n : Int) + 5) (by omega) (by omega), (r10 n (by omega) (by omega)).2.2.2.2.2, jwr_id (by omega) (by omega), en]
        refine ⟨b, ?_⟩
        rwa [e, if_pos (by omega)] at hi
  exact key (C t 0 1).toNat 0 (by omega)
theorem m_ofTale {C M : jM} {t w r0 : Int} (hI : Inv C) (hR : rel C M) (hs : s_ofTale C t w r0) : jCallP 2 67 [.inr (28, 0), .inl t, .inl w] M (fun r M' => r = r0 ∧ M' = M) := by
  refine jstart (by decide) rfl (fX10_ofTale_0 ?_)
  refine jc (m_isTale M t) (by decide) ⟨fun q => ?_, fun q => ⟨(jif_n hs (jite_eq.mp q)).symm, rfl⟩⟩
  have ht := jite_ne.mp q
  have hs := jif_y hs ht
  have hN := hI.N ht.1 (by omega)
  have RT := hR.2.1 t ht.1 (by omega)
  have n1 := hN.1
  refine jc (m_in M w 10 15) (by decide) ⟨fun q => ?_, fun q => ?_⟩
  · have hs := jif_n hs (fun h => jite_eq.mp q (by omega))
    refine ⟨fun z => ⟨fun z1 => ⟨fun z2 => ⟨fun z3 => ⟨?_, rfl⟩, fun z3 => jc (m_highest (by omega) hN RT) (by decide) ⟨?_, rfl⟩⟩, fun z2 => ⟨by rw [jal_28_8]; omega, ?_, rfl⟩⟩, fun z1 => ⟨by rw [jal_28_9]; omega, ?_, rfl⟩⟩, fun z => ⟨by rw [jal_28_6]; omega, ?_, rfl⟩⟩
    · exact (jif_n (jif_n (jif_n (jif_n hs z) z1) z2) z3).symm
    · exact (jif_y (jif_n (jif_n (jif_n hs z) z1) z2) z3).symm
    · rw [hR.2.2.1 t ht.1 ht.2]; exact (jif_y (jif_n (jif_n hs z) z1) z2).symm
    · rw [RT.2.1]; exact (jif_y (jif_n hs z) z1).symm
    · rw [RT.1]; exact (jif_y hs z).symm
  · have hw := jite_ne.mp q
    have hs := jif_y hs (by omega)
    rw [jwr_id (by omega) (by omega)]
    refine jc (m_isThing (by omega) hN RT) (by decide) ⟨fun z => ⟨(jif_n hs (fun h => jite_eq.mp z (by omega))).symm, rfl⟩, fun z => ?_⟩
    have hz := jite_ne.mp z
    have e : jwr (jwr (jwr (6 * t) + w) - 10) = 6 * t + (w - 10) := by rw [jwr_id (z := 6 * t) (by omega) (by omega), jwr_id (z := 6 * t + w) (by omega) (by omega), jwr_id (by omega) (by omega)]; omega
    rw [e, RT.2.2.1 (w - 10) hz.1 hz.2]
    exact ⟨by rw [jal_28_7]; omega, (jif_y hs hz.2).symm, rfl⟩
/-- what become does: tale u is copied onto tale t -/
theorem m_become {M : jM} {t u : Int} (ht : 0 ≤ t ∧ t < 15) (hu : 0 ≤ u ∧ u < 15) (hn : ¬ t = u) : jCallP 0 68 [.inr (28, 0), .inl t, .inl u] M (fun _ M' => M' 28 6 t = M 28 6 u ∧ M' 28 9 t = M 28 9 u ∧ M' 28 8 t = M 28 8 u ∧ (∀ x, 0 ≤ x → x < 6 → M' 28 7 (6 * t + x) = M 28 7 (6 * u + x)) ∧ (∀ c, 0 ≤ c → c < 84 → M' 28 10 (84 * t + c) = M 28 10 (84 * u + c)) ∧ own t M M') := by
  refine jstart (by decide) rfl (fX10_become_0 ⟨by rw [jal_28_6]; exact hu, by rw [jal_28_6]; exact ht, by rw [jal_28_9]; exact hu, by rw [jal_28_9]; exact ht, by rw [jal_28_8]; exact hu, by rw [jal_28_8]; exact ht, ?_⟩)
  generalize hQ : (fun (_ : Int) (M' : jM) => M' 28 6 t = M 28 6 u ∧ M' 28 9 t = M 28 9 u ∧ M' 28 8 t = M 28 8 u ∧ (∀ x, 0 ≤ x → x < 6 → M' 28 7 (6 * t + x) = M 28 7 (6 * u + x)) ∧ (∀ c, 0 ≤ c → c < 84 → M' 28 10 (84 * t + c) = M 28 10 (84 * u + c)) ∧ own t M M') = Q
  have k2 : ∀ v, 0 ≤ v → v ≤ 84 → ∀ N : jM, (N 28 6 t = M 28 6 u ∧ N 28 9 t = M 28 9 u ∧ N 28 8 t = M 28 8 u) → (∀ x, 0 ≤ x → x < 6 → N 28 7 (6 * t + x) = M 28 7 (6 * u + x)) → (∀ c, 0 ≤ c → c < v → N 28 10 (84 * t + c) = M 28 10 (84 * u + c)) → own t M N → jWP 0 68 74 [some (.inr (28, 0)), some (.inl t), some (.inl u), some (.inl v)] [] N Q := by
    refine jloop (e := 84) (fun N a b c d => ?_) (fun v v0 v1 ih N a b c d => ?_)
    · refine fX10_become_74 ⟨fun _ => ?_, fun z => by exfalso; omega⟩
      rw [← hQ]
      exact ⟨a.1, a.2.1, a.2.2, b, c, d⟩
    · have w1 : jwr (jwr (84 * u) + v) = 84 * u + v := by rw [jwr_id (z := 84 * u) (by omega) (by omega), jwr_id (by omega) (by omega)]
      have w2 : jwr (jwr (84 * t) + v) = 84 * t + v := by rw [jwr_id (z := 84 * t) (by omega) (by omega), jwr_id (by omega) (by omega)]
      refine fX10_become_74 ⟨fun z => by exfalso; omega, fun _ => ?_⟩
      rw [w1, w2, jwr_id (by omega) (by omega), d.2.2.2.2 (84 * u + v) (by omega)]
      refine ⟨⟨by omega, by rw [jal_28_10]; omega⟩, ⟨by omega, by rw [jal_28_10]; omega⟩, ih _ ?_ (fun x x0 x1 => by rw [jup_ne (by simp)]; exact b x x0 x1) (fun x x0 x1 => ?_) (d.tr (own_10 (by omega)))⟩
      · rw [jup_ne (by simp), jup_ne (by simp), jup_ne (by simp)]; exact a
      · by_cases h : x = v
        · rw [h, jup_eq]
        · rw [jup_ne (by omega)]; exact c x x0 (by omega)
  have k1 : ∀ v, 0 ≤ v → v ≤ 6 → ∀ N : jM, (N 28 6 t = M 28 6 u ∧ N 28 9 t = M 28 9 u ∧ N 28 8 t = M 28 8 u) → (∀ x, 0 ≤ x → x < v → N 28 7 (6 * t + x) = M 28 7 (6 * u + x)) → own t M N → jWP 0 68 38 [some (.inr (28, 0)), some (.inl t), some (.inl u), some (.inl v)] [] N Q := by
    refine jloop (e := 6) (fun N a b d => ?_) (fun v v0 v1 ih N a b d => ?_)
    · exact fX10_become_38 ⟨fun _ => k2 0 (by omega) (by omega) N a b (fun c c0 c1 => by omega) d, fun z => by exfalso; omega⟩
    · have w1 : jwr (jwr (6 * u) + v) = 6 * u + v := by rw [jwr_id (z := 6 * u) (by omega) (by omega), jwr_id (by omega) (by omega)]
      have w2 : jwr (jwr (6 * t) + v) = 6 * t + v := by rw [jwr_id (z := 6 * t) (by omega) (by omega), jwr_id (by omega) (by omega)]
      refine fX10_become_38 ⟨fun z => by exfalso; omega, fun _ => ?_⟩
      rw [w1, w2, jwr_id (by omega) (by omega), d.2.2.2.1 (6 * u + v) (by omega)]
      refine ⟨⟨by omega, by rw [jal_28_7]; omega⟩, ⟨by omega, by rw [jal_28_7]; omega⟩, ih _ ?_ (fun x x0 x1 => ?_) (d.tr (own_7 (by omega)))⟩
      · rw [jup_ne (by simp), jup_ne (by simp), jup_ne (by simp)]; exact a
      · by_cases h : x = v
        · rw [h, jup_eq]
        · rw [jup_ne (by omega)]; exact b x x0 (by omega)
  refine k1 0 (by omega) (by omega) _ ⟨?_, ?_, ?_⟩ (fun x x0 x1 => by omega) ((own_6.tr own_9).tr own_8)
  · rw [jup_ne (by simp), jup_ne (by simp), jup_eq]
  · rw [jup_ne (by simp), jup_eq, jup_ne (by simp)]
  · rw [jup_eq, jup_ne (by simp), jup_ne (by simp)]
theorem rT_agr {C C' M M' : jM} {t u : Int} (hN : jNB C u) (hA : agr C C' u t) (hR : rT C M u) (h6 : M' 28 6 t = M 28 6 u) (h9 : M' 28 9 t = M 28 9 u) (h7 : ∀ x, 0 ≤ x → x < 6 → M' 28 7 (6 * t + x) = M 28 7 (6 * u + x)) (h10 : ∀ c, 0 ≤ c → c < 84 → M' 28 10 (84 * t + c) = M 28 10 (84 * u + c)) : rT C' M' t := by
  obtain ⟨a0, a1, a4, a5, a6⟩ := hA
  obtain ⟨r6, r9, r7, r10⟩ := hR
  have n1 := hN.1
  have n2 := hN.2
  refine ⟨by rw [h6, r6, a0], by rw [h9, r9, a1], fun x x0 x1 => ?_, fun i i0 i1 => ?_⟩
  · rw [a0] at x1
    rw [h7 x x0 (by omega), r7 x x0 x1, a4 x x0 x1]
  · rw [a1] at i1
    have o : ∀ c, 0 ≤ c → c ≤ 5 → M' 28 10 (84 * t + 6 * i + c) = M 28 10 (84 * u + 6 * i + c) := fun c c0 c1 => by
      have := h10 (6 * i + c) (by omega) (by omega)
      rw [← Int.add_assoc, ← Int.add_assoc] at this
      exact this
    have o0 := o 0 (by omega) (by omega)
    have b0 := a6 i 0 i0 i1 (by omega) (by omega)
    rw [Int.add_zero, Int.add_zero] at o0
    rw [Int.add_zero] at b0
    rw [o0, o 1 (by omega) (by omega), o 2 (by omega) (by omega), o 3 (by omega) (by omega), o 4 (by omega) (by omega), o 5 (by omega) (by omega), (a5 i i0 i1).1, (a5 i i0 i1).2.1, (a5 i i0 i1).2.2, b0, a6 i 1 i0 i1 (by omega) (by omega), a6 i 2 i0 i1 (by omega) (by omega)]
    exact r10 i i0 i1
