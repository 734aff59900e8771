/-! greatestBound: the first of the greatest, -1 where nothing is left -/
def gB (b : Int → Int) : Nat → Int
  | 0 => -1
  | n + 1 => if b n = -1 then gB b n else if gB b n = -1 then (n : Int) else if b (gB b n) < b n then (n : Int) else gB b n
theorem gB_bd (b : Int → Int) : ∀ n : Nat, -1 ≤ gB b n ∧ gB b n < n
  | 0 => by
    have : gB b 0 = -1 := rfl
    omega
  | n + 1 => by
    have ih := gB_bd b n
    unfold gB
    split
    · omega
    · split
      · omega
      · split <;> omega
theorem c_greatestBound (M : jM) : jCallP 0 163 [.inr (27, 0)] M (fun r M' => r = gB (M 27 3) 12 ∧ M' = M) := by
  refine jstart (by decide) rfl (fX6_greatestBound_0 ?_)
  have key : ∀ j n : Nat, n + j = 12 → jWP 0 163 4 [some (.inr (27, 0)), some (.inl (gB (M 27 3) n)), some (.inl (n : Int))] [] M (fun r M' => r = gB (M 27 3) 12 ∧ M' = M) := by
    intro j
    induction j with
    | zero =>
      intro n hn
      have : n = 12 := by omega
      subst this
      exact fX6_greatestBound_4 ⟨fun _ => ⟨rfl, rfl⟩, fun z => by exfalso; omega⟩
    | succ j ih =>
      intro n hn
      have hi := ih (n + 1) (by omega)
      have bd := gB_bd (M 27 3) n
      have en : (n : Int) + 1 = ((n + 1 : Nat) : Int) := by omega
      have bn : 0 ≤ (n : Int) ∧ (n : Int) < jal 27 3 := by rw [show jal 27 3 = 12 from rfl]; omega
      have e : gB (M 27 3) (n + 1) = if M 27 3 n = -1 then gB (M 27 3) n else if gB (M 27 3) n = -1 then (n : Int) else if M 27 3 (gB (M 27 3) n) < M 27 3 n then (n : Int) else gB (M 27 3) n := rfl
      refine fX6_greatestBound_4 ⟨fun z => by exfalso; omega, fun _ => ⟨bn, fun z => ?_, fun z => ⟨fun z2 => ?_, fun z2 => ⟨bn, ⟨by omega, by rw [show jal 27 3 = 12 from rfl]; omega⟩, fun z3 => ?_, fun z3 => ?_⟩⟩⟩⟩
      all_goals rw [jwr_id (by omega) (by omega), en]
      · rw [e, if_pos z] at hi; exact hi
      · rw [e, if_neg z, if_pos z2] at hi; exact hi
      · rw [e, if_neg z, if_neg z2, if_neg (by omega)] at hi; exact hi
      · rw [e, if_neg z, if_neg z2, if_pos z3] at hi; exact hi
  exact key 12 0 (by omega)
