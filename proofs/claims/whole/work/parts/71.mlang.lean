/-! the reference: kinds -/
theorem rT.fx {C C' M M' : jM} {t : Int} (h : rT C M t) (hC : C' t = C t) (hM : ∀ y, (y = 6 ∨ y = 7 ∨ y = 9 ∨ y = 10) → M' 28 y = M 28 y) : rT C' M' t := by
  unfold rT at h ⊢
  rw [hC, hM 6 (by simp), hM 7 (by simp), hM 9 (by simp), hM 10 (by simp)]
  exact h
theorem rKp.fx {C C' M M' : jM} (h : rKp C M) (hC : C' 23 = C 23) (hC2 : C' 12 0 = C 12 0) (hM : M' 28 0 17 = M 28 0 17 ∧ M' 28 0 18 = M 28 0 18 ∧ M' 28 0 19 = M 28 0 19) (h1 : M' 28 21 = M 28 21) (h2 : M' 28 22 = M 28 22) : rKp C' M' := by
  unfold rKp at h ⊢
  rw [hC, hC2, hM.1, hM.2.1, hM.2.2, h1, h2]
  exact h
theorem rSo.fx {C C' M M' : jM} (h : rSo C M) (hC : C' 18 0 = C 18 0) (hM : M' 28 0 = M 28 0) : rSo C' M' := by
  unfold rSo at h ⊢
  rw [hC, hM]
  exact h
/-- what stays of the relation where only the language changes -/
theorem rel.lang {C C' M M' : jM} (h : rel C M) (hL : rL C' M') (hC : ∀ x y, ¬ x = 19 → C' x y = C x y) (hM : ∀ y, ¬ (1 ≤ y ∧ y ≤ 4) → M' 28 y = M 28 y) : rel C' M' := by
  obtain ⟨-, hT, hB, hK, hS⟩ := h
  have e : ∀ g, ¬ g = 19 → C' g = C g := fun g hg => by funext y; exact hC g y hg
  have e0 : M' 28 0 = M 28 0 := hM 0 (by omega)
  exact ⟨hL, fun t t0 t1 => (hT t t0 t1).fx (e t (by omega)) (fun y hy => hM y (by omega)), fun t t0 t1 => by rw [hM 8 (by omega), e t (by omega)]; exact hB t t0 t1, hK.fx (e 23 (by omega)) (hC 12 0 (by omega)) (by rw [e0]; exact ⟨rfl, rfl, rfl⟩) (hM 21 (by omega)) (hM 22 (by omega)), hS.fx (hC 18 0 (by omega)) e0⟩
theorem lab_top {C : jM} {k : Int} (h : C 19 3 k = -1) : ∀ n : Nat, lab C n k = k
  | 0 => rfl
  | n + 1 => by unfold lab; rw [if_pos h]
theorem m_above {C M : jM} (hL : jLV C) (hR : rL C M) {k : Int} (hk : isK k) (n : Nat) (hn : n < 1000) : jCallP 0 47 [.inr (28, 0), .inl k, .inl (n : Int)] M (fun r M' => r = lab C n k ∧ M' = M) := by
  refine jstart (by decide) rfl (fX10_above_0 ?_)
  have key : ∀ (j i : Nat) (u : Int), i + j = n → isK u → lab C j u = lab C n k → jWP 0 47 5 [some (.inr (28, 0)), none, some (.inl (n : Int)), some (.inl u), some (.inl (i : Int))] [] M (fun r M' => r = lab C n k ∧ M' = M) := by
    intro j
    induction j with
    | zero =>
      intro i u hi hu he
      exact fX10_above_5 ⟨fun _ => ⟨he, rfl⟩, fun z => by exfalso; omega⟩
    | succ j ih =>
      intro i u hi hu he
      have b3 : 0 ≤ u ∧ u < jal 28 3 := by rw [jal_28_3]; exact hu
      have en : (i : Int) + 1 = ((i + 1 : Nat) : Int) := by omega
      obtain ⟨-, -, -, hw, -⟩ := hL u hu.1 hu.2
      have r3 := (hR u hu.1 hu.2).2.2.1
      refine fX10_above_5 ⟨fun z => by exfalso; omega, fun _ => ⟨b3, fun z => ?_, fun z => ⟨b3, ?_⟩⟩⟩
      · rw [r3, jno_lt hw.1] at z
        rw [jwr_id (by omega) (by omega), en]
        refine ih (i + 1) u (by omega) hu ?_
        rw [lab_top z] at he ⊢
        exact he
      · have h0 : ¬ C 19 3 u = -1 := fun q => by rw [r3, q] at z; exact absurd z (by decide)
        rw [r3, jno_ge (by omega), jwr_id (by omega) (by omega), en]
        refine ih (i + 1) _ (by omega) (by omega) ?_
        rw [← he]
        show _ = (if C 19 3 u = -1 then u else lab C j (C 19 3 u))
        rw [if_neg h0]
  exact key n 0 k (by omega) hk rfl
/-- the level at which kinds are alike, up to one; -6 -/
def meetM (C : jM) (k l m : Int) : Int := if 0 ≤ meet C k l ∧ meet C k l ≤ m then meet C k l else -6
theorem m_alikeAt {C M : jM} (hL : jLV C) (hR : rL C M) {k l m : Int} (hk : isK k) (hl : isK l) (hm : 0 ≤ m ∧ m ≤ 2) : jCallP 1 52 [.inr (28, 0), .inl k, .inl l, .inl m] M (fun r M' => r = meetM C k l m ∧ M' = M) := by
  refine jstart (by decide) rfl (fX10_alikeAt_0 ?_)
  have step : ∀ n : Nat, n ≤ 2 → ∀ Q : Int → jM → Prop, (m < n → Q (-6) M) → (lab C n k = lab C n l → (n : Int) ≤ m → Q n M) → (¬ lab C n k = lab C n l → jWP 1 52 3 [some (.inr (28, 0)), some (.inl k), some (.inl l), some (.inl m), some (.inl ((n : Int) + 1))] [] M Q) → jWP 1 52 3 [some (.inr (28, 0)), some (.inl k), some (.inl l), some (.inl m), some (.inl (n : Int))] [] M Q := by
    intro n hn Q h0 h1 h2
    refine fX10_alikeAt_3 ⟨h0, fun z => ?_⟩
    refine jc (m_above hL hR hk n (by omega)) (by decide) ?_
    refine jc (m_above hL hR hl n (by omega)) (by decide) ?_
    rw [jwr_id (by omega) (by omega)]
    exact ⟨h2, fun e => h1 e z⟩
  unfold meetM meet
  refine step 0 (by omega) _ (fun z => by exfalso; omega) (fun e z => ⟨by rw [if_pos e, if_pos ⟨by omega, z⟩]; rfl, rfl⟩) (fun e0 => ?_)
  refine step 1 (by omega) _ (fun z => ⟨?_, rfl⟩) (fun e z => ⟨by rw [if_neg e0, if_pos e, if_pos ⟨by omega, z⟩]; rfl, rfl⟩) (fun e1 => ?_)
  · rw [if_neg e0]
    split
    · rw [if_neg (by omega)]
    · split <;> rw [if_neg (by omega)]
  refine step 2 (by omega) _ (fun z => ⟨?_, rfl⟩) (fun e z => ⟨by rw [if_neg e0, if_neg e1, if_pos e, if_pos ⟨by omega, z⟩]; rfl, rfl⟩) (fun e2 => ?_)
  · rw [if_neg e0, if_neg e1]
    split <;> rw [if_neg (by omega)]
  refine fX10_alikeAt_3 ⟨fun z => ⟨by rw [if_neg e0, if_neg e1, if_neg e2, if_neg (by omega)], rfl⟩, fun z => by exfalso; omega⟩
theorem m_isWide {C M : jM} (hR : rL C M) {k : Int} (hk : isK k) : jCallP 0 45 [.inr (28, 0), .inl k] M (fun r M' => jBl r (∃ j, 0 ≤ j ∧ j < 16 ∧ C 19 3 j = k) ∧ M' = M) := by
  refine jstart (by decide) rfl (fX10_isWide_0 ?_)
  have key : ∀ i, 0 ≤ i → i ≤ 16 → ∀ v, (v = 0 ∨ v = 1) → (v = 1 ↔ ∃ j, 0 ≤ j ∧ j < i ∧ C 19 3 j = k) → jWP 0 45 4 [some (.inr (28, 0)), some (.inl k), some (.inl v), some (.inl i)] [] M (fun r M' => jBl r (∃ j, 0 ≤ j ∧ j < 16 ∧ C 19 3 j = k) ∧ M' = M) := by
    refine jloop (e := 16) (fun v hv h => ?_) (fun i i0 i1 ih v hv h => ?_)
    · exact fX10_isWide_4 ⟨fun _ => ⟨hv, hv.elim (fun e => Or.inr ⟨e, fun q => by have := h.mpr q; omega⟩) (fun e => Or.inl ⟨e, h.mp e⟩), rfl⟩, fun z => by exfalso; omega⟩
    · have r3 := (hR i i0 i1).2.2.1
      have e3 : M 28 3 i = k ↔ C 19 3 i = k := by rw [r3]; unfold jno; split <;> omega
      have up : (∃ j, 0 ≤ j ∧ j < i ∧ C 19 3 j = k) → ∃ j, 0 ≤ j ∧ j < i + 1 ∧ C 19 3 j = k := fun ⟨j, j0, j1, e⟩ => ⟨j, j0, by omega, e⟩
      refine fX10_isWide_4 ⟨fun z => by exfalso; omega, fun _ => ⟨fun z => ?_, fun z => ⟨⟨i0, by rw [jal_28_3]; exact i1⟩, fun z2 => ?_, fun z2 => ?_⟩⟩⟩
      all_goals rw [jwr_id (by omega) (by omega)]
      · exact ih 1 (Or.inr rfl) ⟨fun _ => up (h.mp (by omega)), fun _ => rfl⟩
      · refine ih 0 (Or.inl rfl) ⟨fun q => absurd q (by decide), fun ⟨j, j0, j1, e⟩ => ?_⟩
        by_cases u : j = i
        · rw [u] at e; exact absurd (e3.mpr e) z2
        · have := h.mpr ⟨j, j0, by omega, e⟩; omega
      · exact ih 1 (Or.inr rfl) ⟨fun _ => ⟨i, i0, by omega, e3.mp z2⟩, fun _ => rfl⟩
  exact key 0 (by omega) (by omega) 0 (Or.inl rfl) ⟨fun q => absurd q (by decide), fun ⟨j, j0, j1, _⟩ => by omega⟩
theorem jif_y {c a b : Prop} (h : jif c a b) (hc : c) : a := h.1 hc
theorem jif_n {c a b : Prop} (h : jif c a b) (hc : ¬ c) : b := h.2 hc
theorem f28_up {M : jM} {k : Nat} {j v : Int} : f28 M (jup M 28 k j v) := fun x y h => by rw [jup_set, jset_ne (fun q => h q.1)]
theorem f28.tr {M M' M'' : jM} (h : f28 M M') (h' : f28 M' M'') : f28 M M'' := fun x y q => by rw [h' x y q, h x y q]
theorem f28_r (M : jM) : f28 M M := fun _ _ _ => rfl
theorem m_kind {C M C' : jM} {k n e r0 : Int} (hI : Inv C) (hR : rel C M) (hs : s_kind C k n e r0 C') : jCallP 3 46 [.inr (28, 0), .inl k, .inl n, .inl e] M (fun r M' => r = r0 ∧ rel C' M' ∧ f28 M M') := by
  refine jstart (by decide) rfl (fX10_kind_0 ?_)
  refine jc (m_isKind M k) (by decide) ⟨fun q => ?_, fun q => ?_⟩
  rotate_left
  · obtain ⟨e1, rfl⟩ := jif_n hs (jite_eq.mp q)
    exact ⟨e1.symm, hR, f28_r M⟩
  have hk := jite_ne.mp q
  have hs := jif_y hs hk
  refine jc (m_in M n 1 3) (by decide) ⟨fun q => ?_, fun q => ?_⟩
  rotate_left
  · obtain ⟨e1, rfl⟩ := jif_n hs (jite_eq.mp q)
    exact ⟨e1.symm, hR, f28_r M⟩
  have hn := jite_ne.mp q
  have hs := jif_y hs hn
  obtain ⟨q1, q2, q3, q4⟩ := hR.1 k hk.1 hk.2
  obtain ⟨-, -, -, w1, w2, -⟩ := hI.L k hk.1 hk.2
  refine jcq (m_isUsed hI hR k) (by decide) ?_
  rintro r3 M3 ⟨bl, rfl⟩
  have no : (used C k ∨ linked C k) → -3 = r0 ∧ rel C' M3 ∧ f28 M3 M3 := fun h => by
    obtain ⟨e1, rfl⟩ := jif_y hs h
    exact ⟨e1.symm, hR, f28_r M3⟩
  refine ⟨fun z => no (Or.inl ((jBl_ne bl).mp z)), fun z => ⟨by rw [jal_28_3]; exact hk, fun z2 => no (Or.inr (Or.inl ?_)), fun z2 => ?_⟩⟩
  · rw [q3] at z2
    intro h
    rw [h] at z2
    exact absurd z2 (by decide)
  have h3 : C 19 3 k = -1 := by rw [q3] at z2; exact (jno_lt w1.1).mp z2
  refine jcq (m_isWide hR.1 hk) (by decide) ?_
  rintro r4 M4 ⟨bw, rfl⟩
  refine ⟨fun z3 => no (Or.inr (Or.inr (Or.inr ((jBl_ne bw).mp z3)))), fun z3 => ⟨by rw [jal_28_4]; exact hk, fun z4 => ?_, fun z4 => no (Or.inr (Or.inr (Or.inl ?_)))⟩⟩
  rotate_left
  · rw [q4] at z4
    intro h
    rw [h] at z4
    exact absurd z4 (by decide)
  have h4 : C 19 4 k = -1 := by rw [q4] at z4; exact (jno_lt w2.1).mp z4
  have hno : ¬ (used C k ∨ linked C k) := fun h => by
    rcases h with h | h | h | h
    · exact (jBl_eq bl).mp z h
    · exact h h3
    · exact h h4
    · exact (jBl_eq bw).mp z3 h
  obtain ⟨e1, rfl⟩ := jif_n hs hno
  have b1 : 0 ≤ k ∧ k < jal 28 1 := by rw [jal_28_1]; exact hk
  have fin : ∀ v, v = (if ¬ e = 0 ∧ n = 2 then 1 else 0) → M4 28 1 k = r0 ∧ rel (jup (jup C 19 1 k n) 19 2 k (if ¬ e = 0 ∧ n = 2 then 1 else 0)) (jup (jup M4 28 1 k n) 28 2 k v) ∧ f28 M4 (jup (jup M4 28 1 k n) 28 2 k v) := fun v hv => by
    refine ⟨by rw [q1, e1], hR.lang (fun j j0 j1 => ?_) (fun x y h => by rw [jup_set, jset_ne (by omega), jup_set, jset_ne (by omega)]) (fun y h => by rw [jup_set, jset_ne (by omega), jup_set, jset_ne (by omega)]), f28_up.tr f28_up⟩
    obtain ⟨p1, p2, p3, p4⟩ := hR.1 j j0 j1
    have nx : ∀ (D : jM) (g : Int) (y : Nat), ¬ y = 1 → ¬ y = 2 → ∀ u v, jup (jup D g 1 k u) g 2 k v g y j = D g y j := fun D g y h h' u v => by rw [jup_ne (by omega), jup_ne (by omega)]
    refine ⟨?_, ?_, by rw [nx _ _ 3 (by decide) (by decide), nx _ _ 3 (by decide) (by decide)]; exact p3, by rw [nx _ _ 4 (by decide) (by decide), nx _ _ 4 (by decide) (by decide)]; exact p4⟩
    · have n1 : ∀ (D : jM) (g : Int) u v, jup (jup D g 1 k u) g 2 k v g 1 j = jup D g 1 k u g 1 j := fun D g u v => jup_ne (by simp)
      rw [n1, n1]
      by_cases u : j = k
      · rw [u, jup_eq, jup_eq]
      · rw [jup_ne (by omega), jup_ne (by omega)]; exact p1
    · by_cases u : j = k
      · rw [u, jup_eq, jup_eq, hv]
      · rw [jup_ne (by omega), jup_ne (by omega), jup_ne (by omega), jup_ne (by omega)]; exact p2
  have b2 : 0 ≤ k ∧ k < jbl 28 2 := by rw [jbl_28_2]; exact hk
  exact ⟨b1, b1, fun z5 => ⟨b2, Or.inl rfl, fin 0 (by rw [if_neg (fun h => h.1 z5)])⟩, fun z5 => ⟨fun z6 => ⟨b2, Or.inl rfl, fin 0 (by rw [if_neg (fun h => z6 h.2)])⟩, fun z6 => ⟨b2, Or.inr rfl, fin 1 (by rw [if_pos ⟨z5, z6⟩])⟩⟩⟩
