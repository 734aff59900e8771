/-! countOfSort, greatestBound -/
theorem c_countOfSort {M : jM} {g v : Int} (hg : 0 ≤ g ∧ g < 18) (hN : jNB M g) : jCallP 0 165 [.inr (g, 0), .inl v] M (fun r M' => r = cP (fun x => M g 4 x = v) (M g 0 0).toNat ∧ M' = M) := by
  have b1 := hN.1
  refine jstart (by decide) rfl (fX6_countOfSort_0 ?_)
  have key : ∀ j n : Nat, ((n + j : Nat) : Int) = M g 0 0 → jWP 0 165 4 [some (.inr (g, 0)), some (.inl v), some (.inl (cP (fun x => M g 4 x = v) n)), some (.inl (n : Int))] [] M (fun r M' => r = cP (fun x => M g 4 x = v) (M g 0 0).toNat ∧ M' = M) := by
    intro j
    induction j with
    | zero =>
      intro n hn
      exact fX6_countOfSort_4 ⟨hg, fun _ => ⟨by rw [show (M g 0 0).toNat = n by omega], rfl⟩, fun z => by exfalso; omega⟩
    | succ j ih =>
      intro n hn
      have hi := ih (n + 1) (by omega)
      have c := cP_bd (fun x => M g 4 x = v) n
      have en : (n : Int) + 1 = ((n + 1 : Nat) : Int) := by omega
      refine fX6_countOfSort_4 ⟨hg, fun z => by exfalso; omega, fun _ => ⟨hg, ⟨by omega, by rw [jal_n4 hg]; omega⟩, fun z => ?_, fun z => ?_⟩⟩
      · rw [jwr_id (by omega) (by omega), jwr_id (by omega) (by omega), en, Int.add_zero]
        rwa [cP_no (P := fun x => M g 4 x = v) z] at hi
      · rw [jwr_id (by omega) (by omega), jwr_id (by omega) (by omega), en]
        rwa [cP_yes (P := fun x => M g 4 x = v) z] at hi
  exact key (M g 0 0).toNat 0 (by omega)
