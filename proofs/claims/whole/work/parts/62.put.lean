/-! a tie put behind the others keeps a tale good -/
theorem good_hb {C : jM} {g : Int} (hG : jGood C g) : jHB C g := by
  obtain ⟨-, hEn, -, hT, -⟩ := hG
  have key : ∀ n : Nat, ∀ i : Int, 0 ≤ i → i < n → i < C g 0 1 → 1 ≤ C g 8 i ∧ C g 8 i ≤ i + 1 := by
    intro n
    induction n with
    | zero => intro i i0 i1; omega
    | succ n ih =>
      intro i i0 i1 i2
      have hh : ∀ q, 0 ≤ q → q < 3 → 0 ≤ hE C g (C g 6 (3 * i + q)) ∧ hE C g (C g 6 (3 * i + q)) ≤ i := fun q q0 q1 => by
        have := hEn i q i0 i2 q0 q1
        unfold hE
        by_cases y : 10 ≤ C g 6 (3 * i + q)
        · rw [if_pos y]
          have := ih (C g 6 (3 * i + q) - 10) (by omega) (by omega) (by omega)
          omega
        · rw [if_neg y]; omega
      have k0 := hh 0 (by omega) (by omega)
      rw [Int.add_zero] at k0
      have k1 := hh 1 (by omega) (by omega)
      have k2 := hh 2 (by omega) (by omega)
      rw [hT i i0 i2]
      have m1 := jmx_le k1.2 k2.2
      have m2 := jmx_le k0.2 m1
      have m3 := jmx_ge (hE C g (C g 6 (3 * i))) (jmx (hE C g (C g 6 (3 * i + 1))) (hE C g (C g 6 (3 * i + 2))))
      omega
  intro i i0 i1
  exact key (i.toNat + 1) i i0 (by omega) i1
/-- an end that a tie of kind k may have at place q -/
def eOk (M : jM) (g k e q : Int) : Prop := -1 ≤ e ∧ (e < 10 → e < M g 0 0) ∧ e < 10 + M g 0 1 ∧ (e = -1 ↔ M 19 1 k ≤ q)
theorem jput_r {M : jM} {g k x y z m : Int} : (jput M g k x y z m g 0 0 = M g 0 0) ∧ (jput M g k x y z m g 0 1 = M g 0 1 + 1) ∧ (jput M g k x y z m g 0 2 = M g 0 2) ∧ (jput M g k x y z m g 4 = M g 4) ∧
    (∀ i, i < M g 0 1 → jput M g k x y z m g 5 i = M g 5 i ∧ jput M g k x y z m g 7 i = M g 7 i ∧ jput M g k x y z m g 8 i = M g 8 i) ∧ (jput M g k x y z m g 5 (M g 0 1) = k ∧ jput M g k x y z m g 7 (M g 0 1) = m ∧ jput M g k x y z m g 8 (M g 0 1) = hTie M g x y z) ∧
    (∀ c, c < 3 * M g 0 1 → jput M g k x y z m g 6 c = M g 6 c) ∧ jput M g k x y z m g 6 (3 * M g 0 1) = x ∧ jput M g k x y z m g 6 (3 * M g 0 1 + 1) = y ∧ jput M g k x y z m g 6 (3 * M g 0 1 + 2) = z := by
  rw [jput_0, jput_5, jput_6, jput_7, jput_8]
  refine ⟨by rw [jfu_ne (by omega)], by rw [jfu_eq], by rw [jfu_ne (by omega)], jput_at (by simp), fun i hi => ⟨by rw [jfu_ne (by omega)], by rw [jfu_ne (by omega)], by rw [jfu_ne (by omega)]⟩, ⟨by rw [jfu_eq], by rw [jfu_eq], by rw [jfu_eq]⟩, fun c hc => by rw [jfu_ne (by omega), jfu_ne (by omega), jfu_ne (by omega)], by rw [jfu_ne (by omega), jfu_ne (by omega), jfu_eq], by rw [jfu_ne (by omega), jfu_eq], by rw [jfu_eq]⟩
theorem put_good {M : jM} {g k x y z m : Int} (hG : jGood M g) (hlt : M g 0 1 < 14) (hk : isK k) (hm : -1 ≤ m ∧ m < 10) (hx : eOk M g k x 0) (hy : eOk M g k y 1) (hz : eOk M g k z 2) : jGood (jput M g k x y z m) g := by
  have hHB := good_hb hG
  obtain ⟨⟨hg, ⟨hN1, hN2⟩, hK, hO⟩, hEn, hH, hT, hC⟩ := hG
  obtain ⟨p0, p1, p2, p4, p5, ⟨q5, q7, q8⟩, p6, r0, r1, r2⟩ := jput_r (M := M) (g := g) (k := k) (x := x) (y := y) (z := z) (m := m)
  have e19 : jput M g k x y z m 19 = M 19 := by funext b; exact jput_at (by omega)
  have hcs : ∀ i, i < M g 0 1 + 1 → i = M g 0 1 ∨ i < M g 0 1 := fun i h => by omega
  have old : ∀ i q, i < M g 0 1 → 0 ≤ q → q < 3 → jput M g k x y z m g 6 (3 * i + q) = M g 6 (3 * i + q) := fun i q h q0 q1 => p6 _ (by omega)
  have nw : ∀ q, 0 ≤ q → q < 3 → eOk M g k (jput M g k x y z m g 6 (3 * M g 0 1 + q)) q := fun q q0 q1 => by
    have : q = 0 ∨ q = 1 ∨ q = 2 := by omega
    rcases this with e | e | e
    · rw [e, Int.add_zero, r0]; exact hx
    · rw [e, r1]; exact hy
    · rw [e, r2]; exact hz
  have hEq : ∀ e, e < 10 + M g 0 1 → hE (jput M g k x y z m) g e = hE M g e := fun e h => by
    unfold hE
    by_cases u : 10 ≤ e
    · rw [if_pos u, if_pos u, (p5 _ (by omega)).2.2]
    · rw [if_neg u, if_neg u]
  have hEd : ∀ e, e < 10 + M g 0 1 → hEnd M g e = hE M g e := fun e h => by
    unfold hE hEnd
    by_cases u : 10 ≤ e
    · rw [if_pos ⟨u, h⟩, if_pos u]
    · rw [if_neg (fun w => u w.1), if_neg u]
  have hb := fun e => hEnd_bd ⟨hN1, hN2⟩ hHB e
  refine ⟨⟨hg, ⟨by rw [p0]; exact hN1, by rw [p1]; omega⟩, fun i i0 i1 => ?_, fun i i0 i1 => ?_⟩, fun i q i0 i1 q0 q1 => ?_, fun i i0 i1 => ?_, fun i i0 i1 => ?_, fun i q i0 i1 q0 q1 => ?_⟩
  all_goals rw [p1] at i1
  · rcases hcs i i1 with e | e
    · rw [e, q5]; exact hk
    · rw [(p5 i e).1]; exact hK i i0 e
  · rcases hcs i i1 with e | e
    · rw [e, q7]; exact hm
    · rw [(p5 i e).2.1]; exact hO i i0 e
  · rw [p0]
    rcases hcs i i1 with e | e
    · have := nw q q0 q1
      unfold eOk at this
      rw [e]
      exact ⟨this.1, this.2.1, this.2.2.1⟩
    · rw [old i q e q0 q1]; exact hEn i q i0 e q0 q1
  · rcases hcs i i1 with e | e
    · rw [e, q8]
      have := jmx_le (hb x).2 (jmx_le (hb y).2 (hb z).2)
      have := jmx_ge (hEnd M g x) (jmx (hEnd M g y) (hEnd M g z))
      have := (hb x).1
      unfold hTie
      omega
    · rw [(p5 i e).2.2]; exact hH i i0 e
  · rcases hcs i i1 with e | e
    · rw [e, q8, r0, r1, r2, hEq x hx.2.2.1, hEq y hy.2.2.1, hEq z hz.2.2.1]
      unfold hTie
      rw [hEd x hx.2.2.1, hEd y hy.2.2.1, hEd z hz.2.2.1]
    · have o0 := old i 0 e (by omega) (by omega)
      rw [Int.add_zero] at o0
      have n0 := hEn i 0 i0 e (by omega) (by omega)
      rw [Int.add_zero] at n0
      have n1 := hEn i 1 i0 e (by omega) (by omega)
      have n2 := hEn i 2 i0 e (by omega) (by omega)
      rw [(p5 i e).2.2, o0, old i 1 e (by omega) (by omega), old i 2 e (by omega) (by omega), hEq _ (by omega), hEq _ (by omega), hEq _ (by omega)]
      exact hT i i0 e
  · rw [e19]
    rcases hcs i i1 with e | e
    · rw [e, q5]; exact (nw q q0 q1).2.2.2
    · rw [old i q e q0 q1, (p5 i e).1]; exact hC i q i0 e q0 q1
/-- no two ties of a tale are the same -/
def jUq (M : jM) (g : Int) : Prop := ∀ i j, 0 ≤ i → i < j → j < M g 0 1 → ¬ mtie M g (M g 5 j) (M g 6 (3 * j)) (M g 6 (3 * j + 1)) (M g 6 (3 * j + 2)) i
theorem put_uq {M : jM} {g k x y z m : Int} (hg : 0 ≤ g ∧ g < 18) (hU : jUq M g) (hn : 0 ≤ M g 0 1) (hf : fnd M g k x y z = -1) : jUq (jput M g k x y z m) g := by
  obtain ⟨p0, p1, p2, p4, p5, ⟨q5, q7, q8⟩, p6, r0, r1, r2⟩ := jput_r (M := M) (g := g) (k := k) (x := x) (y := y) (z := z) (m := m)
  have e19 : jput M g k x y z m 19 = M 19 := by funext b; exact jput_at (by omega)
  have em : ∀ k x' y' z' i, i < M g 0 1 → (mtie (jput M g k x y z m) g k x' y' z' i ↔ mtie M g k x' y' z' i) := fun k x' y' z' i h => by
    obtain ⟨-, -, -, -, p5, -, p6, -⟩ := jput_r (M := M) (g := g) (k := k) (x := x) (y := y) (z := z) (m := m)
    have e19 : jput M g k x y z m 19 = M 19 := by funext b; exact jput_at (by omega)
    unfold mtie
    rw [e19, (p5 i h).1, p6 (3 * i) (by omega), p6 (3 * i + 1) (by omega), p6 (3 * i + 2) (by omega)]
  have em : ∀ k' x' y' z' i, i < M g 0 1 → (mtie (jput M g k x y z m) g k' x' y' z' i ↔ mtie M g k' x' y' z' i) := fun k' x' y' z' i h => by
    unfold mtie
    rw [e19, (p5 i h).1, p6 (3 * i) (by omega), p6 (3 * i + 1) (by omega), p6 (3 * i + 2) (by omega)]
  intro i j i0 ij j1
  rw [p1] at j1
  by_cases e : j = M g 0 1
  · rw [e, q5, r0, r1, r2, em _ _ _ _ _ (by omega)]
    rcases jfst_sp (mtie M g k x y z) (M g 0 1).toNat with h | h
    · exact h.2 i i0 (by omega)
    · unfold fnd at hf
      exact absurd h.1 (by omega)
  · rw [(p5 j (by omega)).1, p6 (3 * j) (by omega), p6 (3 * j + 1) (by omega), p6 (3 * j + 2) (by omega), em _ _ _ _ _ (by omega)]
    exact hU i j i0 ij (by omega)
theorem uq_agr {C C' : jM} {a a' : Int} (h19 : C' 19 = C 19) (h : agr C C' a a') (hU : jUq C a) : jUq C' a' := by
  obtain ⟨h0, h1, h4, h5, h6⟩ := h
  have e60 : ∀ i, 0 ≤ i → i < C a 0 1 → C' a' 6 (3 * i) = C a 6 (3 * i) := fun i i0 i1 => by have := h6 i 0 i0 i1 (by omega) (by omega); rwa [Int.add_zero] at this
  intro i j i0 ij j1
  rw [h1] at j1
  have := hU i j i0 ij j1
  unfold mtie at this ⊢
  rw [h19, (h5 i i0 (by omega)).1, (h5 j (by omega) j1).1, e60 i i0 (by omega), e60 j (by omega) j1, h6 i 1 i0 (by omega) (by omega) (by omega), h6 i 2 i0 (by omega) (by omega) (by omega), h6 j 1 (by omega) j1 (by omega) (by omega), h6 j 2 (by omega) j1 (by omega) (by omega)]
  exact this
