/-! guesses: over, isGuess, gather, ends (written by gs.py: once for 24, once for 25) -/
def ovr (p A G : Int → Int) (e : Int) : Int := if e < 0 then -1 else if e < 10 then p e else if A (e - 10) = -1 then (if G (e - 10) = -1 then -1 else 30 + G (e - 10)) else 10 + A (e - 10)
def isG (C : jM) (p A G : Int → Int) (i : Int) : Prop := ∀ q, 0 ≤ q → q < 3 → C 12 6 (3 * i + q) = -1 ∨ ¬ ovr p A G (C 12 6 (3 * i + q)) = -1
def jGs (C M : jM) (o pg : Int) (p A G : Int → Int) (n : Int) : Prop := M 12 = C 12 ∧ (∀ x, 0 ≤ x → x < C 12 0 0 → M pg 6 x = p x ∧ -1 ≤ p x ∧ p x < 6) ∧ (∀ i, 0 ≤ i → i < C 12 0 1 → M pg 7 i = A i ∧ -1 ≤ A i ∧ A i < 14) ∧ (∀ i, 0 ≤ i → i < n → M o 6 i = G i ∧ -1 ≤ G i ∧ G i < 14)
theorem ovr_bd {p A G : Int → Int} {e : Int} (hp : e < 10 → 0 ≤ e → -1 ≤ p e) (hA : 10 ≤ e → -1 ≤ A (e - 10)) (hG : 10 ≤ e → -1 ≤ G (e - 10)) : -1 ≤ ovr p A G e := by
  unfold ovr
  split
  · omega
  · split
    · exact hp (by omega) (by omega)
    · have := hA (by omega)
      have := hG (by omega)
      split
      · split <;> omega
      · omega
theorem c_over_24 {C M : jM} {p A G : Int → Int} {n e : Int} (hNa : jNB C 12) (hS : jGs C M 24 23 p A G n) (hn : n ≤ C 12 0 1) (h0 : -1 ≤ e) (h1 : e < 10 → e < C 12 0 0) (h2 : e < 10 + n) : jCallP 0 126 [.inr (24, 0), .inl e] M (fun r M' => r = ovr p A G e ∧ M' = M) := by
  obtain ⟨h12, hp, hA, hG⟩ := hS
  have b1 := hNa.1
  have t1 := hNa.2
  refine jstart (by decide) rfl (fX1_over_24_0 ⟨fun q => ?_, fun q => ⟨fun q2 => ?_, fun q2 => ?_⟩⟩)
  · have e10 : 10 ≤ e := by omega
    obtain ⟨a1, a2, a3⟩ := hA (e - 10) (by omega) (by omega)
    obtain ⟨g1, g2, g3⟩ := hG (e - 10) (by omega) (by omega)
    have ev : ovr p A G e = if A (e - 10) = -1 then (if G (e - 10) = -1 then -1 else 30 + G (e - 10)) else 10 + A (e - 10) := by
      unfold ovr
      rw [if_neg (by omega), if_neg (by omega)]
    rw [jwr_id (z := e - 10) (by omega) (by omega), h12, a1, g1, jwr_id (z := 30 + G (e - 10)) (by omega) (by omega), jwr_id (z := 10 + A (e - 10)) (by omega) (by omega), ev]
    have b7 : 0 ≤ e - 10 ∧ e - 10 < jal 23 7 := by rw [show jal 23 7 = 14 from rfl]; omega
    have b6 : 0 ≤ e - 10 ∧ e - 10 < jal 24 6 := by rw [show jal 24 6 = 14 from rfl]; omega
    refine ⟨fun z => by exfalso; omega, fun _ => ⟨by omega, fun _ => ⟨b7, fun z => ⟨b6, fun z2 => ⟨b6, ?_, rfl⟩, fun z2 => ⟨?_, rfl⟩⟩, fun z => ⟨b7, ?_, rfl⟩⟩, fun z => by exfalso; omega⟩⟩
    · rw [if_pos z, if_neg z2]
    · rw [if_pos z, if_pos z2]
    · rw [if_neg z]
  · exact ⟨by unfold ovr; rw [if_pos q2], rfl⟩
  · obtain ⟨a1, a2, a3⟩ := hp e q2 (h1 (by omega))
    have ev : ovr p A G e = p e := by unfold ovr; rw [if_neg (by omega), if_pos (by omega)]
    have b6 : 0 ≤ e ∧ e < jal 23 6 := by rw [show jal 23 6 = 6 from rfl]; omega
    rw [a1, ev]
    exact ⟨b6, fun _ => ⟨b6, rfl, rfl⟩, fun z => ⟨by omega, rfl⟩⟩
theorem c_isGuess_24 {C M : jM} {p A G : Int → Int} {i : Int} (hNa : jNB C 12) (hE : jEs C 12) (hS : jGs C M 24 23 p A G i) (hi : 0 ≤ i ∧ i < C 12 0 1) : jCallP 1 125 [.inr (24, 0), .inl i] M (fun r M' => jBl r (isG C p A G i) ∧ M' = M) := by
  have b1 := hNa.1
  have t1 := hNa.2
  have h12 := hS.1
  refine jstart (by decide) rfl (fX1_isGuess_24_0 ?_)
  have key : ∀ q, 0 ≤ q → q ≤ 3 → (∀ q', 0 ≤ q' → q' < q → C 12 6 (3 * i + q') = -1 ∨ ¬ ovr p A G (C 12 6 (3 * i + q')) = -1) → jWP 1 125 2 [some (.inr (24, 0)), some (.inl i), some (.inl q), none] [] M (fun r M' => jBl r (isG C p A G i) ∧ M' = M) := by
    refine jloop (e := 3) (fun h => ?_) (fun q q0 q1 ih h => ?_)
    · exact fX1_isGuess_24_2 ⟨fun _ => ⟨Or.inr rfl, Or.inl ⟨rfl, h⟩, rfl⟩, fun z => by exfalso; omega⟩
    · obtain ⟨e0, e1, e2⟩ := hE i q hi.1 hi.2 q0 q1
      have nx : (C 12 6 (3 * i + q) = -1 ∨ ¬ ovr p A G (C 12 6 (3 * i + q)) = -1) → jWP 1 125 2 [some (.inr (24, 0)), some (.inl i), some (.inl (jwr (q + 1))), none] [] M (fun r M' => jBl r (isG C p A G i) ∧ M' = M) := fun hq => by
        rw [jwr_id (by omega) (by omega)]
        refine ih (fun q' a0 a1 => ?_)
        by_cases u : q' = q
        · rw [u]; exact hq
        · exact h q' a0 (by omega)
      refine fX1_isGuess_24_2 ⟨fun z => by exfalso; omega, fun _ => ?_⟩
      rw [jwr_id (z := i * 3) (by omega) (by omega), jwr_id (z := i * 3 + q) (by omega) (by omega), show i * 3 + q = 3 * i + q by omega, h12]
      refine ⟨by omega, ⟨by omega, by rw [jal_n6 (g := 12) (by omega)]; omega⟩, fun z => nx (Or.inl z), fun z => ?_⟩
      refine jcq (c_over_24 (C := C) hNa hS (by omega) e0 e1 e2) (by decide) ?_
      rintro r M' ⟨hr, rfl⟩
      exact ⟨fun w => nx (Or.inr (by rw [← hr]; exact w)), fun w => ⟨Or.inl rfl, Or.inr ⟨rfl, fun g => (g q q0 q1).elim z (fun v => v (by rw [← hr]; exact w))⟩, rfl⟩⟩
  exact key 0 (by omega) (by omega) (fun q' a0 a1 => by omega)
theorem c_over_25 {C M : jM} {p A G : Int → Int} {n e : Int} (hNa : jNB C 12) (hS : jGs C M 25 20 p A G n) (hn : n ≤ C 12 0 1) (h0 : -1 ≤ e) (h1 : e < 10 → e < C 12 0 0) (h2 : e < 10 + n) : jCallP 0 126 [.inr (25, 0), .inl e] M (fun r M' => r = ovr p A G e ∧ M' = M) := by
  obtain ⟨h12, hp, hA, hG⟩ := hS
  have b1 := hNa.1
  have t1 := hNa.2
  refine jstart (by decide) rfl (fX1_over_25_0 ⟨fun q => ?_, fun q => ⟨fun q2 => ?_, fun q2 => ?_⟩⟩)
  · have e10 : 10 ≤ e := by omega
    obtain ⟨a1, a2, a3⟩ := hA (e - 10) (by omega) (by omega)
    obtain ⟨g1, g2, g3⟩ := hG (e - 10) (by omega) (by omega)
    have ev : ovr p A G e = if A (e - 10) = -1 then (if G (e - 10) = -1 then -1 else 30 + G (e - 10)) else 10 + A (e - 10) := by
      unfold ovr
      rw [if_neg (by omega), if_neg (by omega)]
    rw [jwr_id (z := e - 10) (by omega) (by omega), h12, a1, g1, jwr_id (z := 30 + G (e - 10)) (by omega) (by omega), jwr_id (z := 10 + A (e - 10)) (by omega) (by omega), ev]
    have b7 : 0 ≤ e - 10 ∧ e - 10 < jal 20 7 := by rw [show jal 20 7 = 14 from rfl]; omega
    have b6 : 0 ≤ e - 10 ∧ e - 10 < jal 25 6 := by rw [show jal 25 6 = 14 from rfl]; omega
    refine ⟨fun z => by exfalso; omega, fun _ => ⟨by omega, fun _ => ⟨b7, fun z => ⟨b6, fun z2 => ⟨b6, ?_, rfl⟩, fun z2 => ⟨?_, rfl⟩⟩, fun z => ⟨b7, ?_, rfl⟩⟩, fun z => by exfalso; omega⟩⟩
    · rw [if_pos z, if_neg z2]
    · rw [if_pos z, if_pos z2]
    · rw [if_neg z]
  · exact ⟨by unfold ovr; rw [if_pos q2], rfl⟩
  · obtain ⟨a1, a2, a3⟩ := hp e q2 (h1 (by omega))
    have ev : ovr p A G e = p e := by unfold ovr; rw [if_neg (by omega), if_pos (by omega)]
    have b6 : 0 ≤ e ∧ e < jal 20 6 := by rw [show jal 20 6 = 6 from rfl]; omega
    rw [a1, ev]
    exact ⟨b6, fun _ => ⟨b6, rfl, rfl⟩, fun z => ⟨by omega, rfl⟩⟩
theorem c_isGuess_25 {C M : jM} {p A G : Int → Int} {i : Int} (hNa : jNB C 12) (hE : jEs C 12) (hS : jGs C M 25 20 p A G i) (hi : 0 ≤ i ∧ i < C 12 0 1) : jCallP 1 125 [.inr (25, 0), .inl i] M (fun r M' => jBl r (isG C p A G i) ∧ M' = M) := by
  have b1 := hNa.1
  have t1 := hNa.2
  have h12 := hS.1
  refine jstart (by decide) rfl (fX1_isGuess_25_0 ?_)
  have key : ∀ q, 0 ≤ q → q ≤ 3 → (∀ q', 0 ≤ q' → q' < q → C 12 6 (3 * i + q') = -1 ∨ ¬ ovr p A G (C 12 6 (3 * i + q')) = -1) → jWP 1 125 2 [some (.inr (25, 0)), some (.inl i), some (.inl q), none] [] M (fun r M' => jBl r (isG C p A G i) ∧ M' = M) := by
    refine jloop (e := 3) (fun h => ?_) (fun q q0 q1 ih h => ?_)
    · exact fX1_isGuess_25_2 ⟨fun _ => ⟨Or.inr rfl, Or.inl ⟨rfl, h⟩, rfl⟩, fun z => by exfalso; omega⟩
    · obtain ⟨e0, e1, e2⟩ := hE i q hi.1 hi.2 q0 q1
      have nx : (C 12 6 (3 * i + q) = -1 ∨ ¬ ovr p A G (C 12 6 (3 * i + q)) = -1) → jWP 1 125 2 [some (.inr (25, 0)), some (.inl i), some (.inl (jwr (q + 1))), none] [] M (fun r M' => jBl r (isG C p A G i) ∧ M' = M) := fun hq => by
        rw [jwr_id (by omega) (by omega)]
        refine ih (fun q' a0 a1 => ?_)
        by_cases u : q' = q
        · rw [u]; exact hq
        · exact h q' a0 (by omega)
      refine fX1_isGuess_25_2 ⟨fun z => by exfalso; omega, fun _ => ?_⟩
      rw [jwr_id (z := i * 3) (by omega) (by omega), jwr_id (z := i * 3 + q) (by omega) (by omega), show i * 3 + q = 3 * i + q by omega, h12]
      refine ⟨by omega, ⟨by omega, by rw [jal_n6 (g := 12) (by omega)]; omega⟩, fun z => nx (Or.inl z), fun z => ?_⟩
      refine jcq (c_over_25 (C := C) hNa hS (by omega) e0 e1 e2) (by decide) ?_
      rintro r M' ⟨hr, rfl⟩
      exact ⟨fun w => nx (Or.inr (by rw [← hr]; exact w)), fun w => ⟨Or.inl rfl, Or.inr ⟨rfl, fun g => (g q q0 q1).elim z (fun v => v (by rw [← hr]; exact w))⟩, rfl⟩⟩
  exact key 0 (by omega) (by omega) (fun q' a0 a1 => by omega)
theorem c_pairedThings {C M : jM} {p : Int → Int} (hNa : jNB C 12) (h12 : M 12 = C 12) (hp : ∀ x, 0 ≤ x → x < C 12 0 0 → M 23 6 x = p x) : jCallP 0 133 [.inr (23, 0)] M (fun r M' => isM r (fun x => x < C 12 0 0 ∧ 0 ≤ p x) ∧ M' = M) := by
  have b1 := hNa.1
  refine jstart (by decide) rfl (fX2_pairedThings_0 ?_)
  have key : ∀ n, 0 ≤ n → n ≤ C 12 0 0 → ∀ v, isM v (fun x => (x < C 12 0 0 ∧ 0 ≤ p x) ∧ x < n) → jWP 0 133 4 [some (.inr (23, 0)), some (.inl v), some (.inl n)] [] M (fun r M' => isM r (fun x => x < C 12 0 0 ∧ 0 ≤ p x) ∧ M' = M) := by
    refine jloop (e := C 12 0 0) (fun v hv => ?_) (fun n n0 n1 ih v hv => ?_)
    · refine fX2_pairedThings_4 ?_
      rw [h12]
      exact ⟨by omega, fun _ => ⟨hv.congr (fun x _ _ => ⟨fun z => z.1, fun z => ⟨z, z.1⟩⟩), rfl⟩, fun z => by exfalso; omega⟩
    · refine fX2_pairedThings_4 ?_
      rw [h12, hp n n0 n1, jwr_id (by omega) (by omega)]
      have hm := isM_more hv n0 (by omega) (0 ≤ p n) ⟨fun k => ⟨n1, k⟩, fun k => k.2⟩
      refine ⟨by omega, fun z => by exfalso; omega, fun _ => ⟨⟨n0, by rw [show jal 23 6 = 6 from rfl]; omega⟩, fun z => ?_, fun z => ?_⟩⟩
      · rw [if_neg (by omega)] at hm
        exact ih _ hm
      · rw [if_pos z] at hm
        exact ih _ hm
  exact key 0 (by omega) b1.1 0 (isM_0.congr (fun x x0 _ => ⟨fun z => z.elim, fun z => by have := z.2; omega⟩))
