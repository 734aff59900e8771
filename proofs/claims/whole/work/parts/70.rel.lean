/-! THE REFERENCE: how its cells (group 28) stand to those of the class -/
def rL (C M : jM) : Prop := ∀ k, 0 ≤ k → k < 16 → M 28 1 k = C 19 1 k ∧ M 28 2 k = C 19 2 k ∧ M 28 3 k = jno (C 19 3 k) ∧ M 28 4 k = jno (C 19 4 k)
def rT (C M : jM) (t : Int) : Prop := M 28 6 t = C t 0 0 ∧ M 28 9 t = C t 0 1 ∧ (∀ x, 0 ≤ x → x < C t 0 0 → M 28 7 (6 * t + x) = C t 4 x) ∧ (∀ i, 0 ≤ i → i < C t 0 1 → M 28 10 (84 * t + 6 * i) = C t 5 i ∧ M 28 10 (84 * t + 6 * i + 1) = jno (C t 6 (3 * i)) ∧ M 28 10 (84 * t + 6 * i + 2) = jno (C t 6 (3 * i + 1)) ∧ M 28 10 (84 * t + 6 * i + 3) = jno (C t 6 (3 * i + 2)) ∧ M 28 10 (84 * t + 6 * i + 4) = C t 7 i ∧ M 28 10 (84 * t + 6 * i + 5) = C t 8 i)
def nd (v : Int) : Int := if v < 0 then 9 else v
def rKp (C M : jM) : Prop := M 28 0 17 = C 23 0 0 ∧ (¬ C 23 0 0 = 0 → M 28 0 18 = C 23 0 1 ∧ M 28 0 19 = C 23 0 2 ∧ (∀ x, 0 ≤ x → x < C 12 0 0 → M 28 21 x = nd (C 23 6 x)) ∧ (∀ i, 0 ≤ i → i < C 12 0 1 → M 28 22 i = jno (C 23 7 i)))
def rSo (C M : jM) : Prop := M 28 0 4 = C 18 0 8 ∧ M 28 0 27 = C 18 0 9 ∧ (¬ C 18 0 9 = 0 → M 28 0 28 = C 18 0 10 ∧ M 28 0 29 = C 18 0 11)
def rel (C M : jM) : Prop := rL C M ∧ (∀ t, 0 ≤ t → t < 14 → rT C M t) ∧ (∀ t, 0 ≤ t → t < 12 → M 28 8 t = C t 0 2) ∧ rKp C M ∧ rSo C M
/-- what stands in the class between the calls -/
def Inv (C : jM) : Prop := jOk C ∧ jAC C ∧ (∀ t, 0 ≤ t → t < 14 → jUq C t) ∧ (C 18 0 8 = 0 ∨ C 18 0 8 = 1) ∧ (C 18 0 9 = 0 ∨ C 18 0 9 = 1) ∧ (C 23 0 0 = 0 ∨ C 23 0 0 = 1) ∧ (C 23 0 0 = 0 → C 12 0 1 = 0 ∧ C 13 0 1 = 0) ∧
  (¬ C 23 0 0 = 0 → (0 ≤ C 23 0 1 ∧ C 23 0 1 < 3) ∧ (C 23 0 2 = 0 ∨ C 23 0 2 = 1) ∧ ∃ R A, vld C 12 13 R ∧ jGl C C 24 23 R A)
def f28 (M M' : jM) : Prop := ∀ x y, ¬ x = 28 → M' x y = M x y
theorem Inv.L {C : jM} (h : Inv C) : jLV C := h.1.1
theorem Inv.G {C : jM} (h : Inv C) {t : Int} (h0 : 0 ≤ t) (h1 : t < 14) : jGood C t := (h.1.2.1 t h0 h1).1
theorem Inv.N {C : jM} (h : Inv C) {t : Int} (h0 : 0 ≤ t) (h1 : t < 14) : jNB C t := (h.G h0 h1).1.2.1
theorem jno_lt {v : Int} (h : -1 ≤ v) : jno v < 0 ↔ v = -1 := by unfold jno; split <;> omega
theorem jno_ge {v : Int} (h : 0 ≤ v) : jno v = v := by unfold jno; rw [if_neg (by omega)]
theorem jno_neg {v : Int} (h : v < 0) : jno v = -6 := by unfold jno; rw [if_pos h]
theorem m_in (M : jM) (v a b : Int) : jCallP 0 39 [.inl v, .inl a, .inl b] M (fun r M' => r = (if a ≤ v ∧ v ≤ b then 1 else 0) ∧ M' = M) := jstart (by decide) rfl (fX10_in_0 ⟨fun z => ⟨Or.inl rfl, by rw [if_neg (by omega)], rfl⟩, fun z => ⟨fun z2 => ⟨Or.inl rfl, by rw [if_neg (by omega)], rfl⟩, fun z2 => ⟨Or.inr rfl, by rw [if_pos ⟨z, z2⟩], rfl⟩⟩⟩)
theorem m_isKind (M : jM) (v : Int) : jCallP 1 40 [.inl v] M (fun r M' => r = (if isK v then 1 else 0) ∧ M' = M) := by
  refine jstart (by decide) rfl (fX10_isKind_0 (jc (m_in M v 0 15) (by decide) ⟨jite_01, ?_, rfl⟩))
  by_cases h : isK v
  · rw [if_pos h, if_pos (by omega)]
  · rw [if_neg h, if_neg (by omega)]
theorem m_isTale (M : jM) (v : Int) : jCallP 1 41 [.inl v] M (fun r M' => r = (if isT v then 1 else 0) ∧ M' = M) := by
  refine jstart (by decide) rfl (fX10_isTale_0 (jc (m_in M v 0 11) (by decide) ⟨jite_01, ?_, rfl⟩))
  by_cases h : isT v
  · rw [if_pos h, if_pos (by omega)]
  · rw [if_neg h, if_neg (by omega)]
theorem m_at (M : jM) {t e : Int} (ht : 0 ≤ t ∧ t < 15) (he : 0 ≤ e ∧ e < 15) : jCallP 0 42 [.inl t, .inl e] M (fun r M' => r = 84 * t + 6 * e ∧ M' = M) := by
  refine jstart (by decide) rfl (fX10_at_0 ⟨?_, rfl⟩)
  rw [jwr_id (z := 84 * t) (by omega) (by omega), jwr_id (z := 6 * e) (by omega) (by omega), jwr_id (by omega) (by omega)]
theorem m_tiesOf {C M : jM} (hN : jNBs C) (hT : ∀ t, 0 ≤ t → t < 14 → rT C M t) (k : Int) : jCallP 1 43 [.inr (28, 0), .inl k] M (fun r M' => r = tol C k ∧ M' = M) := by
  refine jstart (by decide) rfl (fX10_tiesOf_0 ?_)
  have key : ∀ j n : Nat, n + j = 12 → jWP 1 43 4 [some (.inr (28, 0)), some (.inl k), some (.inl (tolN C k n)), some (.inl (n : Int)), none] [] M (fun r M' => r = tol C k ∧ M' = M) := by
    intro j
    induction j with
    | zero =>
      intro n hn
      have : n = 12 := by omega
      subst this
      exact fX10_tiesOf_4 ⟨fun _ => ⟨rfl, rfl⟩, fun z => by exfalso; omega⟩
    | succ j ih =>
      intro n hn
      have hi := ih (n + 1) (by omega)
      have en : (n : Int) + 1 = ((n + 1 : Nat) : Int) := by omega
      obtain ⟨r6, r9, -, r10⟩ := hT n (by omega) (by omega)
      have nn := (hN n (by omega) (by omega)).2
      have b1 := tolN_bd hN k n (by omega)
      refine fX10_tiesOf_4 ⟨fun z => by exfalso; omega, fun _ => ?_⟩
      have inner : ∀ i, 0 ≤ i → i ≤ C n 0 1 → jWP 1 43 13 [some (.inr (28, 0)), some (.inl k), some (.inl (tolN C k n + cI (C n 5) k i)), some (.inl (n : Int)), some (.inl i)] [] M (fun r M' => r = tol C k ∧ M' = M) := by
        refine jloop (e := C n 0 1) ?_ (fun i i0 i1 ih2 => ?_)
        · refine fX10_tiesOf_13 ⟨⟨by omega, by rw [jal_28_9]; omega⟩, fun _ => ?_, fun z => by rw [r9] at z; exfalso; omega⟩
          rw [jwr_id (by omega) (by omega), en]
          exact hi
        · have c := cI_bd' (C n 5) k i0
          refine fX10_tiesOf_13 ⟨⟨by omega, by rw [jal_28_9]; omega⟩, fun z => by rw [r9] at z; exfalso; omega, fun _ => jc (m_at M (t := n) (e := i) (by omega) (by omega)) (by decide) ⟨⟨by omega, by rw [jal_28_10]; omega⟩, ?_⟩⟩
          rw [(r10 i i0 i1).1]
          rw [cI_s i0] at ih2
          refine ⟨fun z => ?_, fun z => ?_⟩
          · rw [if_neg z, Int.add_zero] at ih2
            rw [jwr_id (by omega) (by omega), jwr_id (by omega) (by omega), Int.add_zero]
            exact ih2
          · rw [if_pos z, ← Int.add_assoc] at ih2
            rw [jwr_id (by omega) (by omega), jwr_id (by omega) (by omega)]
            exact ih2
      have h := inner 0 (by omega) nn.1
      rw [cI_0, Int.add_zero] at h
      exact h
  exact key 12 0 (by omega)
theorem cI_pos {f : Int → Int} {k : Int} : ∀ n : Nat, (0 < cntI f k n ↔ ∃ i : Int, 0 ≤ i ∧ i < n ∧ f i = k)
  | 0 => ⟨fun h => absurd (show (0 : Int) < 0 from h) (by decide), fun ⟨i, i0, i1, _⟩ => by omega⟩
  | n + 1 => by
    have ih := cI_pos (f := f) (k := k) n
    have bd := cI_bd f k n
    unfold cntI
    constructor
    · intro h
      by_cases u : f n = k
      · exact ⟨n, by omega, by omega, u⟩
      · rw [if_neg u, Int.add_zero] at h
        obtain ⟨i, i0, i1, e⟩ := ih.mp h
        exact ⟨i, i0, by omega, e⟩
    · rintro ⟨i, i0, i1, e⟩
      by_cases u : f n = k
      · rw [if_pos u]; omega
      · rw [if_neg u, Int.add_zero]
        refine ih.mpr ⟨i, i0, ?_, e⟩
        by_cases v : i = n
        · rw [v] at e; exact absurd e u
        · omega
theorem m_isUsed {C M : jM} (hI : Inv C) (hR : rel C M) (k : Int) : jCallP 2 44 [.inr (28, 0), .inl k] M (fun r M' => jBl r (used C k) ∧ M' = M) := by
  have hN : jNBs C := hI.1.nbs
  obtain ⟨-, hT, -, ⟨h17, -⟩, -⟩ := hR
  have hno : C 23 0 0 = 0 → C 12 0 1 = 0 ∧ C 13 0 1 = 0 := hI.2.2.2.2.2.2.1
  have n12 := hN 12 (by omega) (by omega)
  have n13 := hN 13 (by omega) (by omega)
  have c12 := cI_bd' (C 12 5) k n12.2.1
  have c13 := cI_bd' (C 13 5) k n13.2.1
  have b1 := tolN_bd hN k 12 (by omega)
  have p12 := cI_pos (f := C 12 5) (k := k) (C 12 0 1).toNat
  have p13 := cI_pos (f := C 13 5) (k := k) (C 13 0 1).toNat
  have e12 : cI (C 12 5) k (C 12 0 1) = cntI (C 12 5) k (C 12 0 1).toNat := rfl
  have e13 : cI (C 13 5) k (C 13 0 1) = cntI (C 13 5) k (C 13 0 1).toNat := rfl
  -- what is found by tale t, tie i
  have fin : ∀ v, (v = 0 ∨ v = 1) → (v = 1 ↔ used C k) → (v = 0 ∨ v = 1) ∧ jBl v (used C k) ∧ M = M := fun v h h2 => ⟨h, h.elim (fun e => Or.inr ⟨e, fun q => by have := h2.mpr q; omega⟩) (fun e => Or.inl ⟨e, h2.mp e⟩), rfl⟩
  refine jstart (by decide) rfl (fX10_isUsed_0 (jc (m_tiesOf hN hT k) (by decide) ?_))
  have tale : ∀ t v, (t = 12 ∨ t = 13) → ¬ C 23 0 0 = 0 → (v = 0 ∨ v = 1) → ∀ (P : Prop), (v = 1 ↔ P) → (∀ w, (w = 0 ∨ w = 1) → (w = 1 ↔ (P ∨ 0 < cI (C t 5) k (C t 0 1))) → jWP 2 44 17 [some (.inr (28, 0)), some (.inl k), some (.inl w), some (.inl (t + 1)), none] [] M (fun r M' => jBl r (used C k) ∧ M' = M)) → jWP 2 44 17 [some (.inr (28, 0)), some (.inl k), some (.inl v), some (.inl t), none] [] M (fun r M' => jBl r (used C k) ∧ M' = M) := by
    intro t v ht hk hv P hP next
    have nt := (hN t (by omega) (by omega)).2
    obtain ⟨-, r9, -, r10⟩ := hT t (by omega) (by omega)
    have loop : ∀ i, 0 ≤ i → i ≤ C t 0 1 → ∀ w, (w = 0 ∨ w = 1) → (w = 1 ↔ (P ∨ 0 < cI (C t 5) k i)) → jWP 2 44 33 [some (.inr (28, 0)), some (.inl k), some (.inl w), some (.inl t), some (.inl i)] [] M (fun r M' => jBl r (used C k) ∧ M' = M) := by
      refine jloop (e := C t 0 1) (fun w hw h => ?_) (fun i i0 i1 ih w hw h => ?_)
      · refine fX10_isUsed_33 ⟨⟨by omega, by rw [jal_28_9]; omega⟩, fun _ => ?_, fun z => by rw [r9] at z; exfalso; omega⟩
        rw [jwr_id (by omega) (by omega)]
        exact next w hw h
      · have c := cI_bd' (C t 5) k i0
        have cs := cI_s (f := C t 5) (k := k) i0
        refine fX10_isUsed_33 ⟨⟨by omega, by rw [jal_28_9]; omega⟩, fun z => by rw [r9] at z; exfalso; omega, fun _ => ⟨fun z => ?_, fun z => jc (m_at M (t := t) (e := i) (by omega) (by omega)) (by decide) ⟨⟨by omega, by rw [jal_28_10]; omega⟩, ?_⟩⟩⟩
        · rw [jwr_id (by omega) (by omega)]
          refine ih 1 (Or.inr rfl) ⟨fun _ => (h.mp (by omega)).imp id (fun q => ?_), fun _ => rfl⟩
          rw [cs]; split <;> omega
        · rw [(r10 i i0 i1).1, jwr_id (by omega) (by omega)]
          have hn : ¬ (P ∨ 0 < cI (C t 5) k i) := fun q => by have := h.mpr q; omega
          refine ⟨fun z2 => ih 0 (Or.inl rfl) ⟨fun q => absurd q (by decide), fun q => ?_⟩, fun z2 => ih 1 (Or.inr rfl) ⟨fun _ => Or.inr ?_, fun _ => rfl⟩⟩
          · rw [cs, if_neg z2, Int.add_zero] at q
            exact absurd q hn
          · rw [cs, if_pos z2]; omega
    refine fX10_isUsed_17 ⟨fun z => by exfalso; omega, fun _ => ⟨fun z => by rw [h17] at z; exact absurd z hk, fun _ => loop 0 (by omega) nt.1 v hv ?_⟩⟩
    rw [cI_0, hP]
    exact ⟨Or.inl, fun q => q.elim id (fun q => absurd q (by decide))⟩
  have go : ∀ v, (v = 0 ∨ v = 1) → (v = 1 ↔ 0 < tol C k) → jWP 2 44 17 [some (.inr (28, 0)), some (.inl k), some (.inl v), some (.inl 12), none] [] M (fun r M' => jBl r (used C k) ∧ M' = M) := by
    intro v hv h
    have t0 : 0 ≤ tol C k := b1.1
    by_cases hk : C 23 0 0 = 0
    · refine fX10_isUsed_17 ⟨fun z => by exfalso; omega, fun _ => ⟨fun z => fin v hv ?_, fun z => by rw [h17] at z; exact absurd hk z⟩⟩
      have := hno hk
      rw [h]
      unfold used
      rw [this.1, this.2, cI_0, cI_0, Int.add_zero, Int.add_zero]
    · refine tale 12 v (Or.inl rfl) hk hv _ h (fun w hw h2 => ?_)
      refine tale 13 w (Or.inr rfl) hk hw _ h2 (fun u hu h3 => ?_)
      refine fX10_isUsed_17 ⟨fun _ => fin u hu ?_, fun z => by exfalso; omega⟩
      rw [h3]
      unfold used
      omega
  exact ⟨fun z => go 0 (Or.inl rfl) ⟨fun q => absurd q (by decide), fun q => by omega⟩, fun z => go 1 (Or.inr rfl) ⟨fun _ => z, fun _ => rfl⟩⟩
