/-! Weaver: clear, newEnd, bringEnds, findOrPut -/
theorem c_clear (M : jM) : jCallP 0 177 [.inr (26, 0)] M (fun _ M' => (∀ x, 0 ≤ x → x < 6 → M' 26 6 x = -1) ∧ (∀ i, 0 ≤ i → i < 14 → M' 26 7 i = -1) ∧ ∀ x y, ¬ (x = 26 ∧ (y = 6 ∨ y = 7)) → M' x y = M x y) := by
  refine jstart (by decide) rfl (fX8_clear_0 ?_)
  have k2 : ∀ (N : jM), (∀ x, 0 ≤ x → x < 6 → N 26 6 x = -1) → (∀ x y, ¬ (x = 26 ∧ (y = 6 ∨ y = 7)) → N x y = M x y) → ∀ i, 0 ≤ i → i ≤ 14 → ∀ N' : jM, (∀ c, 0 ≤ c → c < i → N' 26 7 c = -1) → (∀ x y, ¬ (x = 26 ∧ y = 7) → N' x y = N x y) → jWP 0 177 23 [some (.inr (26, 0)), some (.inl i)] [] N' (fun _ M' => (∀ x, 0 ≤ x → x < 6 → M' 26 6 x = -1) ∧ (∀ i, 0 ≤ i → i < 14 → M' 26 7 i = -1) ∧ ∀ x y, ¬ (x = 26 ∧ (y = 6 ∨ y = 7)) → M' x y = M x y) := by
    intro N h6 hf
    refine jloop (e := 14) (fun N' h7 f => ?_) (fun i i0 i1 ih N' h7 f => ?_)
    · exact fX8_clear_23 ⟨fun _ => ⟨fun x x0 x1 => by rw [f 26 6 (by simp)]; exact h6 x x0 x1, h7, fun x y h => by rw [f x y (by omega), hf x y h]⟩, fun z => by exfalso; omega⟩
    · refine fX8_clear_23 ⟨fun z => by exfalso; omega, fun _ => ⟨⟨i0, by rw [show jal 26 7 = 14 from rfl]; exact i1⟩, ?_⟩⟩
      rw [jwr_id (by omega) (by omega)]
      refine ih _ (fun c c0 c1 => ?_) (fun x y h => by rw [jup_set, jset_ne h, f x y h])
      by_cases u : c = i
      · rw [u, jup_eq]
      · rw [jup_ne (by omega)]; exact h7 c c0 (by omega)
  have k1 : ∀ i, 0 ≤ i → i ≤ 6 → ∀ N : jM, (∀ c, 0 ≤ c → c < i → N 26 6 c = -1) → (∀ x y, ¬ (x = 26 ∧ (y = 6 ∨ y = 7)) → N x y = M x y) → jWP 0 177 2 [some (.inr (26, 0)), some (.inl i)] [] N (fun _ M' => (∀ x, 0 ≤ x → x < 6 → M' 26 6 x = -1) ∧ (∀ i, 0 ≤ i → i < 14 → M' 26 7 i = -1) ∧ ∀ x y, ¬ (x = 26 ∧ (y = 6 ∨ y = 7)) → M' x y = M x y) := by
    refine jloop (e := 6) (fun N h f => ?_) (fun i i0 i1 ih N h f => ?_)
    · exact fX8_clear_2 ⟨fun _ => k2 N h f 0 (by omega) (by omega) N (fun c c0 c1 => by omega) (fun _ _ _ => rfl), fun z => by exfalso; omega⟩
    · refine fX8_clear_2 ⟨fun z => by exfalso; omega, fun _ => ⟨⟨i0, by rw [show jal 26 6 = 6 from rfl]; exact i1⟩, ?_⟩⟩
      rw [jwr_id (by omega) (by omega)]
      refine ih _ (fun c c0 c1 => ?_) (fun x y q => by rw [jup_set, jset_ne (by omega), f x y q])
      by_cases u : c = i
      · rw [u, jup_eq]
      · rw [jup_ne (by omega)]; exact h c c0 (by omega)
  exact k1 0 (by omega) (by omega) M (fun c c0 c1 => by omega) (fun _ _ _ => rfl)
/-- an end in the tale that is made -/
def nE (D : jM) (e : Int) : Int := if e < 0 then -1 else if e < 6 then D 26 6 e else if (10 ≤ e ∧ e < 24) ∧ ¬ D 26 7 (e - 10) = -1 then 10 + D 26 7 (e - 10) else -1
def nB (D : jM) : Prop := ∀ i, 0 ≤ i → i < 14 → -1 ≤ D 26 7 i ∧ D 26 7 i < 14
theorem c_newEnd {M : jM} {e : Int} (he : -1 ≤ e ∧ e < 24) (hB : nB M) : jCallP 0 179 [.inr (26, 0), .inl e] M (fun r M' => r = nE M e ∧ M' = M) := by
  have w : jwr (e - 10) = e - 10 := jwr_id (by omega) (by omega)
  refine jstart (by decide) rfl (fX8_newEnd_0 ?_)
  rw [w]
  unfold nE
  refine ⟨fun z => ?_, fun z => ⟨fun z2 => ⟨⟨z2, by rw [show jal 26 6 = 6 from rfl]; exact z⟩, by rw [if_neg (by omega), if_pos z], rfl⟩, fun z2 => ⟨by rw [if_pos z2], rfl⟩⟩⟩
  rw [if_neg (show ¬ e < 0 by omega), if_neg (show ¬ e < 6 by omega)]
  refine ⟨fun z2 => fX8_newEnd_51 ⟨fun _ => ⟨by rw [if_neg (by omega)], rfl⟩, fun q => absurd rfl q⟩, fun z2 => ⟨fun z3 => by exfalso; omega, fun z3 => ⟨⟨z2, by rw [show jal 26 7 = 14 from rfl]; exact z3⟩, fun z4 => fX8_newEnd_51 ⟨fun _ => ⟨by rw [if_neg (fun q => q.2 z4)], rfl⟩, fun q => absurd rfl q⟩, fun z4 => fX8_newEnd_51 ⟨fun q => absurd q (by decide), fun _ => ⟨⟨z2, by rw [show jal 26 7 = 14 from rfl]; exact z3⟩, ?_, rfl⟩⟩⟩⟩⟩
  have := hB (e - 10) z2 z3
  rw [if_pos ⟨⟨by omega, by omega⟩, z4⟩, jwr_id (by omega) (by omega)]
/-- all ends of a tie are there -/
def aE (D : jM) (g i : Int) : Prop := ∀ q, 0 ≤ q → q < 3 → D g 6 (3 * i + q) = -1 ∨ ¬ nE D (D g 6 (3 * i + q)) = -1
theorem nE_fx {M M' : jM} (h : ∀ x y, ¬ (x = 26 ∧ y = 9) → M' x y = M x y) (e : Int) : nE M' e = nE M e := by
  unfold nE
  rw [h 26 6 (by simp), h 26 7 (by simp)]
theorem c_bringEnds {M : jM} {g i : Int} (hg : 0 ≤ g ∧ g < 18) (hN : jNB M g) (hE : jEs M g) (hi : 0 ≤ i ∧ i < M g 0 1) (hB : nB M) : jCallP 1 178 [.inr (26, 0), .inr (g, 0), .inl i] M (fun r M' => jBl r (aE M g i) ∧ (∀ x y, ¬ (x = 26 ∧ y = 9) → M' x y = M x y) ∧ (¬ r = 0 → ∀ q, 0 ≤ q → q < 3 → M' 26 9 q = nE M (M g 6 (3 * i + q)))) := by
  have t1 := hN.2
  have b1 := hN.1
  refine jstart (by decide) rfl (fX8_bringEnds_0 ?_)
  have key : ∀ v, 0 ≤ v → v ≤ 3 → ∀ N : jM, (∀ x y, ¬ (x = 26 ∧ y = 9) → N x y = M x y) → (∀ q, 0 ≤ q → q < v → N 26 9 q = nE M (M g 6 (3 * i + q)) ∧ (M g 6 (3 * i + q) = -1 ∨ ¬ nE M (M g 6 (3 * i + q)) = -1)) → jWP 1 178 2 [some (.inr (26, 0)), some (.inr (g, 0)), some (.inl i), some (.inl v), none] [] N (fun r M' => jBl r (aE M g i) ∧ (∀ x y, ¬ (x = 26 ∧ y = 9) → M' x y = M x y) ∧ (¬ r = 0 → ∀ q, 0 ≤ q → q < 3 → M' 26 9 q = nE M (M g 6 (3 * i + q)))) := by
    refine jloop (e := 3) (fun N f h => ?_) (fun v v0 v1 ih N f h => ?_)
    · exact fX8_bringEnds_2 ⟨fun _ => ⟨Or.inr rfl, Or.inl ⟨rfl, fun q q0 q1 => (h q q0 q1).2⟩, f, fun _ q q0 q1 => (h q q0 q1).1⟩, fun z => by exfalso; omega⟩
    · have eg : ∀ y, N g y = M g y := fun y => f g y (by omega)
      have w : jwr (jwr (i * 3) + v) = 3 * i + v := by rw [jwr_id (z := i * 3) (by omega) (by omega), jwr_id (by omega) (by omega)]; omega
      refine fX8_bringEnds_2 ⟨fun z => by exfalso; omega, fun _ => ⟨hg, by rw [w, jal_n6 hg]; omega, ?_⟩⟩
      rw [w, eg, jwr_id (z := v + 1) (by omega) (by omega)]
      have eb := hE i v hi.1 hi.2 v0 v1
      refine jc (c_newEnd (M := N) (e := M g 6 (3 * i + v)) (by omega) (fun c c0 c1 => by rw [f 26 7 (by simp)]; exact hB c c0 c1)) (by decide) ?_
      rw [nE_fx f, jup_eq]
      have bv : 0 ≤ v ∧ v < jal 26 9 := by rw [show jal 26 9 = 3 from rfl]; omega
      have f' : ∀ x y, ¬ (x = 26 ∧ y = 9) → jup N 26 9 v (nE M (M g 6 (3 * i + v))) x y = M x y := fun x y q => by rw [jup_set, jset_ne q, f x y q]
      have go : (M g 6 (3 * i + v) = -1 ∨ ¬ nE M (M g 6 (3 * i + v)) = -1) → jWP 1 178 2 [some (.inr (26, 0)), some (.inr (g, 0)), some (.inl i), some (.inl (v + 1)), none] [] (jup N 26 9 v (nE M (M g 6 (3 * i + v)))) (fun r M' => jBl r (aE M g i) ∧ (∀ x y, ¬ (x = 26 ∧ y = 9) → M' x y = M x y) ∧ (¬ r = 0 → ∀ q, 0 ≤ q → q < 3 → M' 26 9 q = nE M (M g 6 (3 * i + q)))) := fun hh => ih _ f' (fun q q0 q1 => by
        by_cases u : q = v
        · rw [u, jup_eq]; exact ⟨rfl, hh⟩
        · rw [jup_ne (by omega)]; exact h q q0 (by omega))
      refine ⟨bv, fun z => go (Or.inl z), fun z => ⟨bv, fun z2 => go (Or.inr z2), fun z2 => ⟨Or.inl rfl, Or.inr ⟨rfl, fun q => ?_⟩, f', fun q => absurd rfl q⟩⟩⟩
      rcases q v v0 v1 with q | q
      · exact z q
      · exact q z2
  exact key 0 (by omega) (by omega) M (fun _ _ _ => rfl) (fun q q0 q1 => by omega)
/-- the number of a tie in the tale that is made, put there if it is not; -1 if there is no room -/
noncomputable def fopN (D : jM) (k x y z : Int) : Int := if ¬ fnd D 14 k x y z = -1 then fnd D 14 k x y z else if D 14 0 1 < 14 then D 14 0 1 else -1
noncomputable def fopM (D : jM) (k x y z m : Int) : jM := if ¬ fnd D 14 k x y z = -1 then D else if D 14 0 1 < 14 then jput D 14 k x y z m else D
theorem c_findOrPut {M : jM} {k m : Int} (hN : jNB M 14) (hH : jHB M 14) (hk : isK k) : jCallP 2 180 [.inr (26, 0), .inl k, .inl m] M (fun r M' => r = fopN M k (M 26 9 0) (M 26 9 1) (M 26 9 2) ∧ M' = fopM M k (M 26 9 0) (M 26 9 1) (M 26 9 2) m) := by
  have l9 : jal 26 9 = 3 := rfl
  refine jstart (by decide) rfl (fX8_findOrPut_0 ?_)
  rw [l9]
  refine ⟨by omega, by omega, by omega, by omega, ?_⟩
  refine jc (c_find (g := 14) (by omega) hN k hk _ _ _) (by decide) ?_
  unfold fopN fopM
  refine ⟨fun z => ⟨by omega, by omega, by omega, by omega, ?_⟩, fun z => ⟨by rw [if_pos z], by rw [if_pos z]⟩⟩
  refine jcq (c_put (g := 14) (by omega) hN hH k _ _ _ m) (by decide) ?_
  rintro r M' ⟨h1, h2⟩
  have nz : ¬ ¬ fnd M 14 k (M 26 9 0) (M 26 9 1) (M 26 9 2) = -1 := fun q => q z
  rw [if_neg nz, if_neg nz]
  by_cases u : M 14 0 1 < 14
  · rw [if_pos u, if_pos u]; exact h1 u
  · rw [if_neg u, if_neg u]; exact h2 (by omega)
