/-! KINDS: the words of the language, as its cells hold them -/
def jLV (M : jM) : Prop := ∀ k, 0 ≤ k → k < 16 → (1 ≤ M 19 1 k ∧ M 19 1 k ≤ 3) ∧ (M 19 2 k = 0 ∨ M 19 2 k = 1) ∧ (M 19 2 k = 1 → M 19 1 k = 2) ∧ (-1 ≤ M 19 3 k ∧ M 19 3 k < 16) ∧ (-1 ≤ M 19 4 k ∧ M 19 4 k < 16) ∧ (0 ≤ M 19 3 k → M 19 1 (M 19 3 k) = M 19 1 k) ∧ (0 ≤ M 19 4 k → M 19 1 (M 19 4 k) = M 19 1 k ∧ M 19 4 (M 19 4 k) = k ∧ ¬ M 19 4 k = k)
/-- above, step by step -/
def lab (M : jM) : Nat → Int → Int
  | 0, k => k
  | n + 1, k => if M 19 3 k = -1 then k else lab M n (M 19 3 k)
/-- the kinds above a kind, one after the other; -1 behind the last -/
def lch (M : jM) : Nat → Int → Int
  | 0, k => k
  | n + 1, k => if k = -1 then -1 else lch M n (M 19 3 k)
/-- no ring -/
def jAC (M : jM) : Prop := ∀ k, 0 ≤ k → k < 16 → lch M 16 k = -1
def meet (M : jM) (k l : Int) : Int := if lab M 0 k = lab M 0 l then 0 else if lab M 1 k = lab M 1 l then 1 else if lab M 2 k = lab M 2 l then 2 else -1
theorem lab_in {M : jM} (hL : jLV M) : ∀ (n : Nat) (k : Int), 0 ≤ k → k < 16 → 0 ≤ lab M n k ∧ lab M n k < 16
  | 0, k, h0, h1 => ⟨h0, h1⟩
  | n + 1, k, h0, h1 => by
    unfold lab
    by_cases h : M 19 3 k = -1
    · rw [if_pos h]; exact ⟨h0, h1⟩
    · rw [if_neg h]
      obtain ⟨-, -, -, hw, -⟩ := hL k h0 h1
      exact lab_in hL n _ (by omega) (by omega)
theorem c_above {M : jM} (hL : jLV M) (k : Int) (h0 : 0 ≤ k) (h1 : k < 16) (n : Nat) (hn : n < 1000) : jCallP 0 138 [.inr (19, 0), .inl k, .inl (n : Int)] M (fun r M' => r = lab M n k ∧ M' = M) := by
  refine jstart (by decide) rfl (fX3_above_0 ?_)
  have key : ∀ (j : Nat) (i k : Int), i + j = n → 0 ≤ i → 0 ≤ k → k < 16 → ∀ Q : Int → jM → Prop, Q (lab M j k) M → jWP 0 138 5 [some (.inr (19, 0)), none, some (.inl (n : Int)), some (.inl k), some (.inl i)] [] M Q := by
    intro j
    induction j with
    | zero =>
      intro i k hi hi0 hk0 hk1 Q hQ
      refine fX3_above_5 ⟨fun _ => hQ, fun h => ?_⟩
      exfalso
      omega
    | succ j ih =>
      intro i k hi hi0 hk0 hk1 Q hQ
      obtain ⟨-, -, -, hw, -⟩ := hL k hk0 hk1
      unfold lab at hQ
      refine fX3_above_5 ⟨fun h => ?_, fun h => ⟨⟨hk0, by rw [jal_19_3]; exact hk1⟩, fun e => ?_, fun e => ⟨⟨hk0, by rw [jal_19_3]; exact hk1⟩, ?_⟩⟩⟩
      · exfalso
        omega
      · rw [if_pos e] at hQ
        exact hQ
      · rw [if_neg e] at hQ
        rw [jwr_id (by omega) (by omega)]
        exact ih (i + 1) _ (by omega) (by omega) (by omega) (by omega) Q hQ
  exact key n 0 k (by omega) (by omega) h0 h1 _ ⟨rfl, rfl⟩
theorem c_meetingLevel {M : jM} (hL : jLV M) (k l : Int) (h0 : 0 ≤ k ∧ k < 16) (h1 : 0 ≤ l ∧ l < 16) : jCallP 1 139 [.inr (19, 0), .inl k, .inl l] M (fun r M' => r = meet M k l ∧ M' = M) := by
  refine jstart (by decide) rfl (fX3_meetingLevel_0 ?_)
  have step : ∀ (n : Nat), n ≤ 2 → ∀ Q : Int → jM → Prop, (lab M n k = lab M n l → Q n M) → (¬ lab M n k = lab M n l → jWP 1 139 2 [some (.inr (19, 0)), some (.inl k), some (.inl l), some (.inl ((n : Int) + 1))] [] M Q) → jWP 1 139 2 [some (.inr (19, 0)), some (.inl k), some (.inl l), some (.inl (n : Int))] [] M Q := by
    intro n hn Q ha hb
    refine fX3_meetingLevel_2 ⟨fun h => by exfalso; omega, fun _ => ?_⟩
    refine jc (c_above hL k h0.1 h0.2 n (by omega)) (by decide) ?_
    refine jc (c_above hL l h1.1 h1.2 n (by omega)) (by decide) ?_
    refine ⟨fun e => ?_, fun e => ha e⟩
    rw [jwr_id (by omega) (by omega)]
    exact hb e
  unfold meet
  refine step 0 (by omega) _ (fun e => ⟨by rw [if_pos e]; rfl, rfl⟩) (fun e0 => ?_)
  refine step 1 (by omega) _ (fun e => ⟨by rw [if_neg e0, if_pos e]; rfl, rfl⟩) (fun e1 => ?_)
  refine step 2 (by omega) _ (fun e => ⟨by rw [if_neg e0, if_neg e1, if_pos e]; rfl, rfl⟩) (fun e2 => ?_)
  refine fX3_meetingLevel_2 ⟨fun _ => ⟨by rw [if_neg e0, if_neg e1, if_neg e2], rfl⟩, fun h => ?_⟩
  exfalso
  omega
def jBl (r : Int) (P : Prop) : Prop := (r = 1 ∧ P) ∨ (r = 0 ∧ ¬ P)
theorem jBl_ne {r : Int} {P : Prop} (h : jBl r P) : ¬ r = 0 ↔ P := by
  rcases h with ⟨rfl, h⟩ | ⟨rfl, h⟩
  · exact ⟨fun _ => h, fun _ => by decide⟩
  · exact ⟨fun q => absurd rfl q, fun q => absurd q h⟩
theorem jBl_eq {r : Int} {P : Prop} (h : jBl r P) : r = 0 ↔ ¬ P := by
  rcases h with ⟨rfl, h⟩ | ⟨rfl, h⟩
  · exact ⟨fun q => absurd q (by decide), fun q => absurd h q⟩
  · exact ⟨fun _ => h, fun _ => rfl⟩
theorem jBl_01 {r : Int} {P : Prop} (h : jBl r P) : r = 0 ∨ r = 1 := by
  rcases h with ⟨rfl, h⟩ | ⟨rfl, h⟩
  · exact Or.inr rfl
  · exact Or.inl rfl
def linked (M : jM) (k : Int) : Prop := ¬ M 19 3 k = -1 ∨ ¬ M 19 4 k = -1 ∨ ∃ j, 0 ≤ j ∧ j < 16 ∧ M 19 3 j = k
theorem c_isLinked (M : jM) (k : Int) (h : 0 ≤ k ∧ k < 16) : jCallP 0 134 [.inr (19, 0), .inl k] M (fun r M' => jBl r (linked M k) ∧ M' = M) := by
  refine jstart (by decide) rfl (fX3_isLinked_0 ?_)
  have hb : 0 ≤ k ∧ k < jal 19 3 := by rw [jal_19_3]; exact h
  have hb4 : 0 ≤ k ∧ k < jal 19 4 := by rw [jal_19_4]; exact h
  refine ⟨hb, fun e => ⟨Or.inr rfl, Or.inl ⟨rfl, Or.inl e⟩, rfl⟩, fun e3 => ⟨hb4, fun e4 => ?_, fun e => ⟨Or.inr rfl, Or.inl ⟨rfl, Or.inr (Or.inl e)⟩, rfl⟩⟩⟩
  have key : ∀ i, 0 ≤ i → i ≤ 16 → (∀ j, 0 ≤ j → j < i → ¬ M 19 3 j = k) → jWP 0 134 24 [some (.inr (19, 0)), some (.inl k), some (.inl i)] [] M (fun r M' => jBl r (linked M k) ∧ M' = M) := by
    refine jloop (e := 16) (fun hno => ?_) (fun i h0 h1 ih hno => ?_)
    · refine fX3_isLinked_24 ⟨fun _ => ⟨Or.inl rfl, Or.inr ⟨rfl, ?_⟩, rfl⟩, fun q => by exfalso; omega⟩
      rintro (q | q | ⟨j, j0, j1, q⟩)
      · exact q e3
      · exact q e4
      · exact hno j j0 j1 q
    · refine fX3_isLinked_24 ⟨fun q => by exfalso; omega, fun _ => ⟨⟨h0, by rw [jal_19_3]; omega⟩, fun e => ?_, fun e => ⟨Or.inr rfl, Or.inl ⟨rfl, Or.inr (Or.inr ⟨i, h0, h1, e⟩)⟩, rfl⟩⟩⟩
      rw [jwr_id (by omega) (by omega)]
      refine ih (fun j j0 j1 => ?_)
      by_cases hj : j = i
      · rw [hj]; exact e
      · exact hno j j0 (by omega)
  exact key 0 (by omega) (by omega) (fun j j0 j1 => by omega)
theorem lch_m1 (M : jM) : ∀ n : Nat, lch M n (-1) = -1
  | 0 => rfl
  | n + 1 => by unfold lch; rw [if_pos rfl]
theorem lch_in {M : jM} (hL : jLV M) : ∀ (n : Nat) (k : Int), -1 ≤ k → k < 16 → -1 ≤ lch M n k ∧ lch M n k < 16
  | 0, k, h0, h1 => ⟨h0, h1⟩
  | n + 1, k, h0, h1 => by
    unfold lch
    by_cases h : k = -1
    · rw [if_pos h]; omega
    · rw [if_neg h]
      obtain ⟨-, -, -, hw, -⟩ := hL k (by omega) h1
      exact lch_in hL n _ hw.1 hw.2
/-- whether a kind may be set over another -/
def mayOver (M : jM) (over kind : Int) : Prop := M 19 1 over = M 19 1 kind ∧ ∀ n : Nat, ¬ lch M n over = kind
theorem lch_add (M : jM) : ∀ (a b : Nat) (k : Int), lch M (a + b) k = lch M b (lch M a k)
  | 0, b, k => by rw [Nat.zero_add]; rfl
  | a + 1, b, k => by
    rw [show a + 1 + b = (a + b) + 1 by omega]
    by_cases h : k = -1
    · rw [h, lch_m1, lch_m1, lch_m1]
    · rw [lch, if_neg h, lch, if_neg h]
      exact lch_add M a b _
theorem c_mayStandOver {M : jM} (hL : jLV M) (hA : jAC M) (over kind : Int) (h0 : 0 ≤ over ∧ over < 16) (h1 : 0 ≤ kind ∧ kind < 16) : jCallP 0 135 [.inr (19, 0), .inl over, .inl kind] M (fun r M' => jBl r (mayOver M over kind) ∧ M' = M) := by
  refine jstart (by decide) rfl (fX3_mayStandOver_0 ?_)
  refine ⟨by rw [jal_19_1]; exact h0, by rw [jal_19_1]; exact h1, fun e => ?_, fun e => ⟨Or.inl rfl, Or.inr ⟨rfl, fun q => e q.1⟩, rfl⟩⟩
  have fin : ∀ i : Nat, (∀ n : Nat, n < i → ¬ lch M n over = kind) → lch M i over = -1 → ∀ n : Nat, ¬ lch M n over = kind := by
    intro i hno hi n hn
    rcases Nat.lt_or_ge n i with q | q
    · exact hno n q hn
    · rw [show n = i + (n - i) by omega, lch_add, hi, lch_m1] at hn
      omega
  have key : ∀ (j i : Nat), i + j = 17 → (∀ n : Nat, n < i → ¬ lch M n over = kind) → jWP 0 135 22 [some (.inr (19, 0)), none, some (.inl kind), some (.inl (lch M i over)), some (.inl (i : Int))] [] M (fun r M' => jBl r (mayOver M over kind) ∧ M' = M) := by
    intro j
    induction j with
    | zero =>
      intro i hi hno
      refine fX3_mayStandOver_22 ⟨fun _ => ⟨Or.inr rfl, Or.inl ⟨rfl, e, fin i hno ?_⟩, rfl⟩, fun q => by exfalso; omega⟩
      rw [show i = 16 + 1 by omega, lch_add, hA over h0.1 h0.2, lch_m1]
    | succ j ih =>
      intro i hi hno
      have hin := lch_in hL i over (by omega) h0.2
      refine fX3_mayStandOver_22 ⟨fun q => by exfalso; omega, fun _ => ⟨fun q => ⟨Or.inr rfl, Or.inl ⟨rfl, e, fin i hno q⟩, rfl⟩, fun q => ⟨fun q2 => ?_, fun q2 => ⟨Or.inl rfl, Or.inr ⟨rfl, fun q3 => q3.2 i q2⟩, rfl⟩⟩⟩⟩
      refine ⟨by rw [jal_19_3]; omega, ?_⟩
      rw [jwr_id (by omega) (by omega)]
      have e1 : lch M (i + 1) over = M 19 3 (lch M i over) := by
        rw [lch_add, lch, if_neg q]
        rfl
      rw [← e1, show (i : Int) + 1 = ((i + 1 : Nat) : Int) by omega]
      refine ih (i + 1) (by omega) (fun n hn => ?_)
      rcases Nat.lt_or_ge n i with q4 | q4
      · exact hno n q4
      · rw [show n = i by omega]; exact q2
  exact key 17 0 (by omega) (fun n hn => by omega)
