/-! pure: what is left of the third tale has no tie twice -/
def lfI (S D : jM) (c : Int) (n : Nat) : Prop := (∀ j : Int, n ≤ j → j < 14 → D 26 7 j = -1) ∧
  (∀ i, 0 ≤ i → i < D 14 0 1 → ∃ j : Int, (0 ≤ j ∧ j < n) ∧ D 26 7 j = i ∧ D 14 5 i = S c 5 j ∧ ∀ q, 0 ≤ q → q < 3 → D 14 6 (3 * i + q) = nE D (S c 6 (3 * j + q)) ∧ (S c 6 (3 * j + q) = -1 ∨ ¬ nE D (S c 6 (3 * j + q)) = -1)) ∧
  (∀ j j' : Int, 0 ≤ j → j < 14 → 0 ≤ j' → j' < 14 → 0 ≤ D 26 7 j → D 26 7 j = D 26 7 j' → j = j')
theorem nE_inj {S D : jM} {c : Int} (h6 : ∀ z, 0 ≤ z → z < S c 0 0 → D 26 6 z = z) (n6 : S c 0 0 ≤ 6) (h7 : ∀ i, 0 ≤ i → i < 14 → -1 ≤ D 26 7 i) (h3 : ∀ j j' : Int, 0 ≤ j → j < 14 → 0 ≤ j' → j' < 14 → 0 ≤ D 26 7 j → D 26 7 j = D 26 7 j' → j = j') {e e' : Int} (he : -1 ≤ e ∧ (e < 10 → e < S c 0 0) ∧ e < 24) (he' : -1 ≤ e' ∧ (e' < 10 → e' < S c 0 0) ∧ e' < 24) (ha : e = -1 ∨ ¬ nE D e = -1) (ha' : e' = -1 ∨ ¬ nE D e' = -1) (h : nE D e = nE D e') : e = e' := by
  have val : ∀ u, (-1 ≤ u ∧ (u < 10 → u < S c 0 0) ∧ u < 24) → (u = -1 ∨ ¬ nE D u = -1) → (u = -1 ∧ nE D u = -1) ∨ ((0 ≤ u ∧ u < 6) ∧ nE D u = u) ∨ ((10 ≤ u ∧ u < 24) ∧ 0 ≤ D 26 7 (u - 10) ∧ nE D u = 10 + D 26 7 (u - 10)) := fun u hu hau => by
    by_cases u1 : u < 0
    · left
      refine ⟨by omega, ?_⟩
      unfold nE
      rw [if_pos u1]
    · by_cases u2 : u < 6
      · right; left
        refine ⟨by omega, ?_⟩
        unfold nE
        rw [if_neg u1, if_pos u2]
        exact h6 u (by omega) (hu.2.1 (by omega))
      · right; right
        have ht := hau.resolve_left (by omega)
        have u10 : 10 ≤ u := by
          apply Classical.byContradiction
          intro q
          have := hu.2.1 (by omega)
          omega
        have : ¬ D 26 7 (u - 10) = -1 := fun q => ht (by
          unfold nE
          rw [if_neg u1, if_neg u2, if_neg (fun w => w.2 q)])
        have b := h7 (u - 10) (by omega) (by omega)
        refine ⟨by omega, by omega, ?_⟩
        unfold nE
        rw [if_neg u1, if_neg u2, if_pos ⟨by omega, this⟩]
  rcases val e he ha with ⟨a1, a2⟩ | ⟨a1, a2⟩ | ⟨a1, a2, a3⟩
  · rcases val e' he' ha' with ⟨b1, b2⟩ | ⟨b1, b2⟩ | ⟨b1, b2, b3⟩ <;> omega
  · rcases val e' he' ha' with ⟨b1, b2⟩ | ⟨b1, b2⟩ | ⟨b1, b2, b3⟩ <;> omega
  · rcases val e' he' ha' with ⟨b1, b2⟩ | ⟨b1, b2⟩ | ⟨b1, b2, b3⟩
    · omega
    · omega
    · have := h3 (e - 10) (e' - 10) (by omega) (by omega) (by omega) (by omega) a2 (by omega)
      omega
/-- a tie that is brought over is not there -/
theorem lf_new {S D : jM} {c : Int} {n : Nat} (hI : lfI S D c n) (hU : jUq S c) (hE : jEs S c) (hNc : jNB S c) (hDc : D c = S c) (hD19 : D 19 = S 19) (hn : (n : Int) < S c 0 1) (h6 : ∀ z, 0 ≤ z → z < S c 0 0 → D 26 6 z = z) (h7 : ∀ i, 0 ≤ i → i < 14 → -1 ≤ D 26 7 i) (ha : aE D c n) : fnd D 14 (S c 5 n) (nE D (S c 6 (3 * n))) (nE D (S c 6 (3 * n + 1))) (nE D (S c 6 (3 * n + 2))) = -1 := by
  obtain ⟨-, h2, h3⟩ := hI
  have n1 := hNc.1
  have n2 := hNc.2
  have rng : ∀ j q : Int, 0 ≤ j → j < S c 0 1 → 0 ≤ q → q < 3 → -1 ≤ S c 6 (3 * j + q) ∧ (S c 6 (3 * j + q) < 10 → S c 6 (3 * j + q) < S c 0 0) ∧ S c 6 (3 * j + q) < 24 := fun j q j0 j1 q0 q1 => by
    have := hE j q j0 j1 q0 q1
    omega
  rcases jfst_sp (mtie D 14 (S c 5 n) (nE D (S c 6 (3 * n))) (nE D (S c 6 (3 * n + 1))) (nE D (S c 6 (3 * n + 2)))) (D 14 0 1).toNat with ⟨h, -⟩ | ⟨i0, i1, hm, -⟩
  · exact h
  · exfalso
    generalize jfst (mtie D 14 (S c 5 n) (nE D (S c 6 (3 * n))) (nE D (S c 6 (3 * n + 1))) (nE D (S c 6 (3 * n + 2)))) (D 14 0 1).toNat = i at i0 i1 hm
    obtain ⟨j, ⟨j0, j1⟩, -, k1, ke⟩ := h2 i i0 (by omega)
    have inj : ∀ q q' : Int, 0 ≤ q → q < 3 → 0 ≤ q' → q' < 3 → D 14 6 (3 * i + q) = nE D (S c 6 (3 * n + q')) → S c 6 (3 * j + q) = S c 6 (3 * n + q') := fun q q' q0 q1 p0 p1 h => by
      have a := ke q q0 q1
      have b := ha q' p0 p1
      rw [hDc] at b
      exact nE_inj h6 n1.2 h7 h3 (rng j q j0 (by omega) q0 q1) (rng n q' (by omega) hn p0 p1) a.2 b (by rw [← a.1, h])
    have i00 := inj 0 0 (by omega) (by omega) (by omega) (by omega)
    have i01 := inj 0 1 (by omega) (by omega) (by omega) (by omega)
    have i10 := inj 1 0 (by omega) (by omega) (by omega) (by omega)
    have i11 := inj 1 1 (by omega) (by omega) (by omega) (by omega)
    have i22 := inj 2 2 (by omega) (by omega) (by omega) (by omega)
    rw [Int.add_zero, Int.add_zero, Int.add_zero] at i00
    rw [Int.add_zero, Int.add_zero] at i01
    rw [Int.add_zero] at i10
    refine hU j n j0 j1 hn ?_
    obtain ⟨m1, m2⟩ := hm
    rw [hD19] at m2
    rw [k1] at m1
    refine ⟨m1, ?_⟩
    rcases m2 with ⟨e0, e1, e2⟩ | ⟨ev, e0, e1⟩
    · exact Or.inl ⟨i00 e0, i11 e1, i22 e2⟩
    · exact Or.inr ⟨ev, i01 e0, i10 e1⟩
theorem nE_up {D D' : jM} {e : Int} (h6 : D' 26 6 = D 26 6) (h7 : 10 ≤ e → e < 24 → D' 26 7 (e - 10) = D 26 7 (e - 10)) : nE D' e = nE D e := by
  unfold nE
  rw [h6]
  by_cases u1 : e < 0
  · rw [if_pos u1, if_pos u1]
  · rw [if_neg u1, if_neg u1]
    by_cases u2 : e < 6
    · rw [if_pos u2, if_pos u2]
    · rw [if_neg u2, if_neg u2]
      by_cases u3 : 10 ≤ e ∧ e < 24
      · rw [h7 u3.1 u3.2]
      · rw [if_neg (fun w => u3 w.1), if_neg (fun w => u3 w.1)]
theorem lf_inv {S : jM} {c : Int} {P : Int → Prop} (hO : wOk c P (S c 5) (S c 7) S) (hW : jWk S) (hU : jUq S c) (h6 : ∀ z, 0 ≤ z → z < S c 0 0 → S 26 6 z = z) (h7 : ∀ i, 0 ≤ i → i < 14 → S 26 7 i = -1) (h1 : S 14 0 1 = 0) : ∀ n : Nat, (n : Int) ≤ S c 0 1 → lfI S (wv c P (S c 5) (S c 7) S n) c n
  | 0, _ => ⟨fun j j0 j1 => h7 j (by omega) j1, fun i i0 i1 => by
      have : i < S 14 0 1 := i1
      omega, fun j j' j0 j1 _ _ h => by
      have : 0 ≤ S 26 7 j := h
      rw [h7 j j0 j1] at this
      omega⟩
  | n + 1, hn => by
    have ih := lf_inv hO hW hU h6 h7 h1 n (by omega)
    obtain ⟨w1, -⟩ := wv_wk hO hW n (by omega)
    have fw := (wv_fr c P (S c 5) (S c 7) S n).1
    have wl := wv_len c P (S c 5) (S c 7) S n
    have hNc := hO.2.1.1.2.1
    have n2 := hNc.2
    have hE := hO.2.1.2.1
    by_cases h : P n ∧ aE (wv c P (S c 5) (S c 7) S n) c n
    · rw [wv_yes h]
      generalize hD : wv c P (S c 5) (S c 7) S n = D at *
      have eDc : D c = S c := by funext y; exact fw c y (by have := hO.1; omega) (by have := hO.1; omega)
      have eD19 : D 19 = S 19 := by funext y; exact fw 19 y (by simp) (by simp)
      have eD6 : D 26 6 = S 26 6 := fw 26 6 (by simp) (by simp)
      have w7 := w1.2.2.2.2
      have n14 := w1.1.1.2.1.2
      have hnew := lf_new ih hU hE hNc eDc eD19 (by omega) (fun z z0 z1 => by rw [eD6]; exact h6 z z0 z1) (fun i i0 i1 => (w7 i i0 i1).1) h.2
      obtain ⟨b1, b2, b3⟩ := brg_26 D c n (S c 5 n) (S c 7 n)
      have bf := (brg_fr D c n (S c 5 n) (S c 7 n)).1
      rw [eDc] at b2 b3
      have lt : D 14 0 1 < 14 := by omega
      have nz : ¬ ¬ fnd D 14 (S c 5 n) (nE D (S c 6 (3 * n))) (nE D (S c 6 (3 * n + 1))) (nE D (S c 6 (3 * n + 2))) = -1 := fun q => q hnew
      have b2' : brg D c n (S c 5 n) (S c 7 n) 26 7 n = D 14 0 1 := by rw [b2]; unfold fopN; rw [if_neg nz, if_pos lt]
      have b3' : brg D c n (S c 5 n) (S c 7 n) 14 = jput D 14 (S c 5 n) (nE D (S c 6 (3 * n))) (nE D (S c 6 (3 * n + 1))) (nE D (S c 6 (3 * n + 2))) (S c 7 n) 14 := by rw [b3]; unfold fopM; rw [if_neg nz, if_pos lt]
      obtain ⟨-, j1', -, -, j5, ⟨q5, -, -⟩, j6, s0, s1, s2⟩ := jput_r (M := D) (g := 14) (k := S c 5 n) (x := nE D (S c 6 (3 * n))) (y := nE D (S c 6 (3 * n + 1))) (z := nE D (S c 6 (3 * n + 2))) (m := S c 7 n)
      generalize hB : brg D c n (S c 5 n) (S c 7 n) = B at b1 b2' b3' bf
      obtain ⟨i1, i2, i3⟩ := ih
      have up : ∀ j q : Int, 0 ≤ j → j ≤ n → 0 ≤ q → q < 3 → nE B (S c 6 (3 * j + q)) = nE D (S c 6 (3 * j + q)) := fun j q j0 jn q0 q1 => nE_up (bf 26 6 (by simp) (by simp)) (fun e0 _ => b1 _ (by have := hE j q j0 (by omega) q0 q1; omega))
      refine ⟨fun j j0 j1 => by rw [b1 j (by omega)]; exact i1 j (by omega) j1, fun i i0 i1' => ?_, fun j j' j0 j1 p0 p1 hj he => ?_⟩
      · rw [b3', j1'] at i1'
        by_cases u : i = D 14 0 1
        · refine ⟨n, by omega, by rw [b2', u], by rw [b3', u, q5], fun q q0 q1 => ?_⟩
          have a := h.2 q q0 q1
          rw [eDc] at a
          rw [up n q (by omega) (by omega) q0 q1, b3', u]
          refine ⟨?_, a⟩
          have cs : q = 0 ∨ q = 1 ∨ q = 2 := by omega
          rcases cs with e | e | e
          · rw [e, Int.add_zero, Int.add_zero, s0]
          · rw [e, s1]
          · rw [e, s2]
        · obtain ⟨j, ⟨jj0, jj1⟩, k1, k2, k3⟩ := i2 i i0 (by omega)
          refine ⟨j, by omega, by rw [b1 j (by omega), k1], by rw [b3', (j5 i (by omega)).1, k2], fun q q0 q1 => ?_⟩
          rw [up j q jj0 (by omega) q0 q1, b3', j6 _ (by omega)]
          exact k3 q q0 q1
      · by_cases u : j = n
        · by_cases u' : j' = n
          · omega
          · rw [u, b2', b1 j' u'] at he
            have := (w7 j' p0 p1).2
            omega
        · by_cases u' : j' = n
          · rw [u', b2', b1 j u] at he
            have := (w7 j j0 j1).2
            omega
          · rw [b1 j u] at hj he
            rw [b1 j' u'] at he
            exact i3 j j' j0 j1 p0 p1 hj he
    · rw [wv_no h]
      obtain ⟨i1, i2, i3⟩ := ih
      refine ⟨fun j j0 j1 => i1 j (by omega) j1, fun i i0 i1' => ?_, i3⟩
      obtain ⟨j, jj, k⟩ := i2 i i0 i1'
      exact ⟨j, by omega, k⟩
