/-! the reference: wider, opposite, ofKind, alike, timed -/
theorem rL.up3 {C M : jM} (h : rL C M) (k v : Int) : rL (jup C 19 3 k v) (jup M 28 3 k (jno v)) := fun j j0 j1 => by
  obtain ⟨p1, p2, p3, p4⟩ := h j j0 j1
  have nx : ∀ (D : jM) (g : Int) (y : Nat) u, ¬ y = 3 → jup D g 3 k u g y j = D g y j := fun D g y u h => jup_ne (by omega)
  refine ⟨by rw [nx _ _ _ _ (by decide), nx _ _ _ _ (by decide)]; exact p1, by rw [nx _ _ _ _ (by decide), nx _ _ _ _ (by decide)]; exact p2, ?_, by rw [nx _ _ _ _ (by decide), nx _ _ _ _ (by decide)]; exact p4⟩
  by_cases u : j = k
  · rw [u, jup_eq, jup_eq]
  · rw [jup_ne (M := M) (by omega), jup_ne (M := C) (by omega)]; exact p3
theorem rL.up4 {C M : jM} (h : rL C M) (k v : Int) : rL (jup C 19 4 k v) (jup M 28 4 k (jno v)) := fun j j0 j1 => by
  obtain ⟨p1, p2, p3, p4⟩ := h j j0 j1
  have nx : ∀ (D : jM) (g : Int) (y : Nat) u, ¬ y = 4 → jup D g 4 k u g y j = D g y j := fun D g y u h => jup_ne (by omega)
  refine ⟨by rw [nx _ _ _ _ (by decide), nx _ _ _ _ (by decide)]; exact p1, by rw [nx _ _ _ _ (by decide), nx _ _ _ _ (by decide)]; exact p2, by rw [nx _ _ _ _ (by decide), nx _ _ _ _ (by decide)]; exact p3, ?_⟩
  by_cases u : j = k
  · rw [u, jup_eq, jup_eq]
  · rw [jup_ne (M := M) (by omega), jup_ne (M := C) (by omega)]; exact p4
theorem m_wider {C M C' : jM} {k o r0 : Int} (hI : Inv C) (hR : rel C M) (hs : s_wider C k o r0 C') : jCallP 3 48 [.inr (28, 0), .inl k, .inl o] M (fun r M' => r = r0 ∧ rel C' M' ∧ f28 M M') := by
  have hL := hI.L
  refine jstart (by decide) rfl (fX10_wider_0 ?_)
  refine jc (m_isKind M k) (by decide) ⟨fun q => ?_, fun q => ?_⟩
  · obtain ⟨e1, rfl⟩ := jif_n hs (fun h => jite_eq.mp q h.1)
    exact ⟨e1.symm, hR, f28_r M⟩
  have hk := jite_ne.mp q
  have rest : (o = -1 ∨ isK o) → jWP 3 48 21 [some (.inr (28, 0)), some (.inl k), some (.inl o), none, none] [] M (fun r M' => r = r0 ∧ rel C' M' ∧ f28 M M') := by
    intro ho
    have hs := jif_y hs ⟨hk, ho⟩
    refine fX10_wider_21 (jcq (m_isUsed hI hR k) (by decide) ?_)
    rintro r3 M3 ⟨bl, rfl⟩
    refine ⟨fun z => ?_, fun z => ?_⟩
    rotate_left
    · obtain ⟨e1, rfl⟩ := jif_y hs ((jBl_ne bl).mp z)
      exact ⟨e1.symm, hR, f28_r M3⟩
    have hs := jif_n hs ((jBl_eq bl).mp z)
    have b3 : 0 ≤ k ∧ k < jal 28 3 := by rw [jal_28_3]; exact hk
    have no : ¬ (o = -1 ∨ mayOver C o k) → -5 = r0 ∧ rel C' M3 ∧ f28 M3 M3 := fun h => by
      obtain ⟨e1, rfl⟩ := jif_n hs h
      exact ⟨e1.symm, hR, f28_r M3⟩
    have yes : (o = -1 ∨ mayOver C o k) → ∀ v, v = jno o → M3 28 3 k = r0 ∧ rel C' (jup M3 28 3 k v) ∧ f28 M3 (jup M3 28 3 k v) := fun h v hv => by
      obtain ⟨e1, rfl⟩ := jif_y hs h
      refine ⟨by rw [(hR.1 k hk.1 hk.2).2.2.1, e1], hR.lang (by rw [hv]; exact hR.1.up3 k o) (fun x y h => by rw [jup_set, jset_ne (by omega)]) (fun y h => by rw [jup_set, jset_ne (by omega)]), f28_up⟩
    -- the end
    have k89 : ∀ v3, (v3 = 0 → o = -1 ∨ mayOver C o k) → (¬ v3 = 0 → ¬ (o = -1 ∨ mayOver C o k)) → jWP 3 48 89 [some (.inr (28, 0)), some (.inl k), some (.inl o), some (.inl v3), none] [] M3 (fun r M' => r = r0 ∧ rel C' M' ∧ f28 M3 M') := fun v3 h0 h1 =>
      fX10_wider_89 ⟨fun z => ⟨b3, fun z2 => ⟨b3, yes (h0 z) o (jno_ge z2).symm⟩, fun z2 => ⟨b3, yes (h0 z) (-6) (jno_neg z2).symm⟩⟩, fun z => no (h1 z)⟩
    have k70 : ∀ v3, (v3 = 0 → o = -1 ∨ ∀ n, ¬ lch C n o = k) → (¬ v3 = 0 → isK o ∧ ∃ n, lch C n o = k) → jWP 3 48 70 [some (.inr (28, 0)), some (.inl k), some (.inl o), some (.inl v3), none] [] M3 (fun r M' => r = r0 ∧ rel C' M' ∧ f28 M3 M') := fun v3 h0 h1 => by
      refine fX10_wider_70 ⟨fun z => k89 v3 (fun _ => Or.inl (by omega)) (fun h => by have := (h1 h).1; omega), fun z => ?_⟩
      have ko : isK o := by omega
      refine ⟨by rw [jal_28_1]; exact ko, by rw [jal_28_1]; exact hk, ?_⟩
      rw [(hR.1 o ko.1 ko.2).1, (hR.1 k hk.1 hk.2).1]
      refine ⟨fun z2 => no (fun h => h.elim (fun h => by omega) (fun h => z2 h.1)), fun z2 => k89 v3 (fun z3 => Or.inr ⟨z2, (h0 z3).resolve_left (by omega)⟩) (fun z3 h => ?_)⟩
      obtain ⟨-, n, hn⟩ := h1 z3
      exact h.elim (fun h => by omega) (fun h => h.2 n hn)
    have hit : isK o → (∃ n, lch C n o = k) → ∀ u, jWP 3 48 37 [some (.inr (28, 0)), some (.inl k), some (.inl o), some (.inl 1), some (.inl u)] [] M3 (fun r M' => r = r0 ∧ rel C' M' ∧ f28 M3 M') := fun ko h u => by
      have g := k70 1 (fun z => absurd z (by decide)) (fun _ => ⟨ko, h⟩)
      exact fX10_wider_37 ⟨fun _ => g, fun _ => ⟨fun _ => g, fun z => absurd z (by decide)⟩⟩
    have key : isK o → ∀ (j i : Nat) (u : Int), i + j = 17 → u = jno (lch C i o) → (∀ m : Nat, m < i → ¬ lch C m o = k) → jWP 3 48 37 [some (.inr (28, 0)), some (.inl k), some (.inl o), some (.inl 0), some (.inl u)] [] M3 (fun r M' => r = r0 ∧ rel C' M' ∧ f28 M3 M') := by
      intro ko j
      have fin : ∀ i : Nat, (∀ m : Nat, m < i → ¬ lch C m o = k) → lch C i o = -1 → ∀ n : Nat, ¬ lch C n o = k := by
        intro i hno hi n hn
        rcases Nat.lt_or_ge n i with q | q
        · exact hno n q hn
        · rw [show n = i + (n - i) by omega, lch_add, hi, lch_m1] at hn
          omega
      induction j with
      | zero =>
        intro i u hi hu hno
        have e : lch C i o = -1 := by rw [show i = 16 + 1 by omega, lch_add, hI.2.1 o ko.1 ko.2, lch_m1]
        rw [e] at hu
        exact fX10_wider_37 ⟨fun _ => k70 0 (fun _ => Or.inr (fin i hno e)) (fun z => absurd rfl z), fun z => by rw [hu] at z; exact absurd z (by decide)⟩
      | succ j ih =>
        intro i u hi hu hno
        have hin := lch_in hL i o (by omega) ko.2
        by_cases e : lch C i o = -1
        · rw [e] at hu
          exact fX10_wider_37 ⟨fun _ => k70 0 (fun _ => Or.inr (fin i hno e)) (fun z => absurd rfl z), fun z => by rw [hu] at z; exact absurd z (by decide)⟩
        · rw [jno_ge (by omega)] at hu
          have b3 : 0 ≤ u ∧ u < jal 28 3 := by rw [jal_28_3]; omega
          refine fX10_wider_37 ⟨fun z => by exfalso; omega, fun _ => ⟨fun z => absurd rfl z, fun _ => ⟨fun z => ⟨b3, ?_⟩, fun z => ⟨b3, hit ko ⟨i, by omega⟩ _⟩⟩⟩⟩
          have e1 : lch C (i + 1) o = C 19 3 (lch C i o) := by
            rw [lch_add, lch, if_neg e]
            rfl
          refine ih (i + 1) _ (by omega) (by rw [(hR.1 u (by omega) (by omega)).2.2.1, e1, hu]) (fun m hm => ?_)
          rcases Nat.lt_or_ge m i with q4 | q4
          · exact hno m q4
          · rw [show m = i by omega]; omega
    rcases ho with e | ko
    · have g := k70 0 (fun _ => Or.inl e) (fun z => absurd rfl z)
      exact fX10_wider_37 ⟨fun _ => g, fun z => by exfalso; omega⟩
    · exact key ko 17 0 o (by omega) (jno_ge ko.1).symm (fun m hm => by omega)
  refine ⟨fun q1 => rest (Or.inl q1), fun q1 => ?_⟩
  refine jc (m_isKind M o) (by decide) ⟨fun q2 => rest (Or.inr (jite_ne.mp q2)), fun q2 => ?_⟩
  obtain ⟨e1, rfl⟩ := jif_n hs (fun h => h.2.elim q1 (jite_eq.mp q2))
  exact ⟨e1.symm, hR, f28_r M⟩
theorem m_free {C M : jM} {k : Int} (hr : ∀ j, isK j → -1 ≤ C 19 4 j ∧ C 19 4 j < 16) (hk : isK k) (hR : rL C M) : jCallP 0 49 [.inr (28, 0), .inl k] M (fun _ M' => rL (loo C k) M' ∧ ∀ x y, ¬ (x = 28 ∧ y = 4) → M' x y = M x y) := by
  have b4 : 0 ≤ k ∧ k < jal 28 4 := by rw [jal_28_4]; exact hk
  have e4 := (hR k hk.1 hk.2).2.2.2
  have r4 := hr k hk
  refine jstart (by decide) rfl (fX10_free_0 ⟨b4, fun z => ?_, fun z => ?_⟩)
  · rw [e4, jno_lt r4.1] at z
    unfold loo
    rw [if_pos z]
    exact ⟨hR, fun _ _ _ => rfl⟩
  · have h : ¬ C 19 4 k = -1 := fun q => by rw [e4, q] at z; exact absurd z (by decide)
    rw [e4, jno_ge (by omega)]
    refine ⟨b4, by rw [jal_28_4]; omega, b4, ?_, fun x y q => by rw [jup_set, jset_ne q, jup_set, jset_ne q]⟩
    unfold loo
    rw [if_neg h]
    exact (hR.up4 (C 19 4 k) (-1)).up4 k (-1)
theorem loo_rng {C : jM} (hr : ∀ j, isK j → -1 ≤ C 19 4 j ∧ C 19 4 j < 16) (k : Int) : ∀ j, isK j → -1 ≤ loo C k 19 4 j ∧ loo C k 19 4 j < 16 := fun j hj => by
  have := hr j hj
  unfold loo
  split
  · exact this
  · by_cases u : j = k
    · rw [u, jup_eq]; omega
    · rw [jup_ne (by omega)]
      by_cases v : j = C 19 4 k
      · rw [v, jup_eq]; omega
      · rw [jup_ne (by omega)]; exact this
theorem m_opposite {C M C' : jM} {k o r0 : Int} (hI : Inv C) (hR : rel C M) (hs : s_opposite C k o r0 C') : jCallP 2 50 [.inr (28, 0), .inl k, .inl o] M (fun r M' => r = r0 ∧ rel C' M' ∧ f28 M M') := by
  have hL := hI.L
  refine jstart (by decide) rfl (fX10_opposite_0 ?_)
  refine jc (m_isKind M k) (by decide) ⟨fun q => ?_, fun q => ?_⟩
  · obtain ⟨e1, rfl⟩ := jif_n hs (fun h => jite_eq.mp q h.1)
    exact ⟨e1.symm, hR, f28_r M⟩
  have hk := jite_ne.mp q
  refine jc (m_isKind M o) (by decide) ⟨fun q => ?_, fun q => ?_⟩
  rotate_left
  · obtain ⟨e1, rfl⟩ := jif_n hs (fun h => jite_eq.mp q h.2)
    exact ⟨e1.symm, hR, f28_r M⟩
  have ho := jite_ne.mp q
  have hs := jif_y hs ⟨hk, ho⟩
  refine ⟨by rw [jal_28_1]; exact hk, by rw [jal_28_1]; exact ho, ?_⟩
  rw [(hR.1 k hk.1 hk.2).1, (hR.1 o ho.1 ho.2).1]
  refine ⟨fun z => ?_, fun z => ?_⟩
  rotate_left
  · obtain ⟨e1, rfl⟩ := jif_n hs z
    exact ⟨e1.symm, hR, f28_r M⟩
  obtain ⟨e1, rfl⟩ := jif_y hs z
  have hr : ∀ j, isK j → -1 ≤ C 19 4 j ∧ C 19 4 j < 16 := fun j hj => (hL j hj.1 hj.2).2.2.2.2.1
  refine jcq (m_free hr hk hR.1) (by decide) ?_
  rintro r3 M3 ⟨R3, f3⟩
  refine jcq (m_free (loo_rng hr k) ho R3) (by decide) ?_
  rintro r4 M4 ⟨R4, f4⟩
  have f : ∀ x y, ¬ (x = 28 ∧ y = 4) → M4 x y = M x y := fun x y h => by rw [f4 x y h, f3 x y h]
  refine ⟨fun e => ?_, fun e => ⟨by rw [jal_28_4]; exact hk, by rw [jal_28_4]; exact ho, e1.symm, ?_, fun x y h => by rw [jup_set, jset_ne (by omega), jup_set, jset_ne (by omega), f x y (by omega)]⟩⟩
  · rw [if_pos e]
    exact ⟨e1.symm, hR.lang R4 (fun x y h => by rw [loo_ne (by omega), loo_ne (by omega)]) (fun y h => f 28 y (by omega)), fun x y h => f x y (by omega)⟩
  · rw [if_neg e]
    have R5 := (R4.up4 k o).up4 o k
    rw [jno_ge ho.1, jno_ge hk.1] at R5
    exact hR.lang R5 (fun x y h => by rw [jup_set, jset_ne (by omega), jup_set, jset_ne (by omega), loo_ne (by omega), loo_ne (by omega)]) (fun y h => by rw [jup_set, jset_ne (by omega), jup_set, jset_ne (by omega), f 28 y (by omega)])
theorem m_ofKind {C M : jM} {k w r0 : Int} (hI : Inv C) (hR : rel C M) (hs : s_ofKind C k w r0) : jCallP 2 51 [.inr (28, 0), .inl k, .inl w] M (fun r M' => r = r0 ∧ M' = M) := by
  refine jstart (by decide) rfl (fX10_ofKind_0 ?_)
  refine jc (m_isKind M k) (by decide) ⟨fun q => ?_, fun q => ⟨(jif_n hs (jite_eq.mp q)).symm, rfl⟩⟩
  have hk := jite_ne.mp q
  have hs := jif_y hs hk
  obtain ⟨p1, p2, p3, p4⟩ := hR.1 k hk.1 hk.2
  refine ⟨fun z => ⟨?_, rfl⟩, fun z => ⟨by rw [jal_28_1]; exact hk, ?_, rfl⟩, fun z => ⟨by rw [jbl_28_2]; exact hk, fun z2 => ⟨?_, rfl⟩, fun z2 => ⟨?_, rfl⟩⟩, fun z => ⟨by rw [jal_28_3]; exact hk, ?_, rfl⟩, fun z => ⟨by rw [jal_28_4]; exact hk, ?_, rfl⟩, fun z => jc (m_tiesOf hI.1.nbs hR.2.1 k) (by decide) ⟨?_, rfl⟩, trivial⟩
  · exact (jif_n (jif_n (jif_n (jif_n (jif_n hs (by omega)) (by omega)) (by omega)) (by omega)) (by omega)).symm
  · rw [p1]; exact (jif_y hs z).symm
  · have := jif_y (jif_n hs (by omega)) z
    rw [p2] at z2
    rw [if_pos z2] at this
    exact this.symm
  · have := jif_y (jif_n hs (by omega)) z
    rw [p2] at z2
    rw [if_neg z2] at this
    exact this.symm
  · rw [p3]; exact (jif_y (jif_n (jif_n hs (by omega)) (by omega)) (by omega)).symm
  · rw [p4]; exact (jif_y (jif_n (jif_n (jif_n hs (by omega)) (by omega)) (by omega)) (by omega)).symm
  · exact (jif_y (jif_n (jif_n (jif_n (jif_n hs (by omega)) (by omega)) (by omega)) (by omega)) (by omega)).symm
theorem meet_rng (C : jM) (k l : Int) : -1 ≤ meet C k l ∧ meet C k l ≤ 2 := by
  unfold meet
  split
  · omega
  · split
    · omega
    · split <;> omega
theorem m_alike {C M : jM} {k l r0 : Int} (hI : Inv C) (hR : rel C M) (hs : s_alike C k l r0) : jCallP 2 53 [.inr (28, 0), .inl k, .inl l] M (fun r M' => r = r0 ∧ M' = M) := by
  refine jstart (by decide) rfl (fX10_alike_0 ?_)
  refine jc (m_isKind M k) (by decide) ⟨fun q => ⟨(jif_n hs (fun h => jite_eq.mp q h.1)).symm, rfl⟩, fun q => ?_⟩
  have hk := jite_ne.mp q
  refine jc (m_isKind M l) (by decide) ⟨fun q => ⟨(jif_n hs (fun h => jite_eq.mp q h.2)).symm, rfl⟩, fun q => ?_⟩
  have hl := jite_ne.mp q
  have hs := jif_y hs ⟨hk, hl⟩
  refine jc (m_alikeAt hI.L hR.1 hk hl (by omega)) (by decide) ⟨?_, rfl⟩
  rw [hs]
  have := meet_rng C k l
  unfold meetM jno
  split <;> split <;> omega
theorem m_timed {C M C' : jM} {v r0 : Int} (hR : rel C M) (hs : s_timed C v r0 C') : jCallP 1 54 [.inr (28, 0), .inl v] M (fun r M' => r = r0 ∧ rel C' M' ∧ f28 M M') := by
  refine jstart (by decide) rfl (fX10_timed_0 ?_)
  refine jc (m_in M v 0 1) (by decide) ⟨fun q => ?_, fun q => ?_⟩
  rotate_left
  · obtain ⟨e1, rfl⟩ := jif_n hs (fun h => jite_eq.mp q (by omega))
    exact ⟨e1.symm, hR, f28_r M⟩
  have hv := jite_ne.mp q
  obtain ⟨e1, rfl⟩ := jif_y hs (by omega)
  obtain ⟨h1, h2, h3, h4, h5⟩ := hR
  have nC : ∀ x y, ¬ (x = 18 ∧ y = 0) → jup C 18 0 8 v x y = C x y := fun x y h => by rw [jup_set, jset_ne h]
  have nM : ∀ x y, ¬ (x = 28 ∧ y = 0) → jup M 28 0 4 v x y = M x y := fun x y h => by rw [jup_set, jset_ne h]
  refine ⟨by rw [h5.1, e1], ⟨fun j j0 j1 => ?_, fun t t0 t1 => (h2 t t0 t1).fx (by funext y; exact nC t y (by omega)) (fun y hy => nM 28 y (by omega)), fun t t0 t1 => by rw [nM 28 8 (by simp), nC t 0 (by omega)]; exact h3 t t0 t1, h4.fx (by funext y; exact nC 23 y (by simp)) (nC 12 0 (by simp)) ⟨by rw [jup_ne (by simp)], by rw [jup_ne (by simp)], by rw [jup_ne (by simp)]⟩ (nM 28 21 (by simp)) (nM 28 22 (by simp)), ?_⟩, f28_up⟩
  · have := h1 j j0 j1
    rw [nM 28 1 (by simp), nM 28 2 (by simp), nM 28 3 (by simp), nM 28 4 (by simp), nC 19 1 (by simp), nC 19 2 (by simp), nC 19 3 (by simp), nC 19 4 (by simp)]
    exact this
  · have u : ∀ z, ¬ z = 4 → jup M 28 0 4 v 28 0 z = M 28 0 z := fun z h => jup_ne (by omega)
    have w : ∀ z, ¬ z = 8 → jup C 18 0 8 v 18 0 z = C 18 0 z := fun z h => jup_ne (by omega)
    unfold rSo at h5 ⊢
    rw [jup_eq, jup_eq, u 27 (by decide), u 28 (by decide), u 29 (by decide), w 9 (by decide), w 10 (by decide), w 11 (by decide)]
    exact ⟨rfl, h5.2⟩
