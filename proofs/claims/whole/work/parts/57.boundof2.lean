/-! boundOf -/
theorem bK_all {M : jM} {a b : Int} (hNa : jNB M a) (hNb : jNB M b) (hH : jHs M a) : ∀ k : Nat, 0 ≤ bK M a b k ∧ bK M a b k ≤ 1176 * k
  | 0 => ⟨Int.le_refl _, by show (0 : Int) ≤ 1176 * ((0 : Nat) : Int); omega⟩
  | k + 1 => by
    have ih := bK_all hNa hNb hH k
    have e : bK M a b (k + 1) = bK M a b k + mn (cI (M a 5) k (M a 0 1)) (cI (M b 5) k (M b 0 1)) * 6 * hgh M a k (M a 0 1).toNat := rfl
    obtain ⟨-, -, b1, b2⟩ := bK_bd (a := a) (b := b) hNa hNb hH k
    omega
theorem bS_all {M : jM} {a b : Int} (hNa : jNB M a) : ∀ v : Nat, 0 ≤ bS M a b v ∧ bS M a b v ≤ 6 * v
  | 0 => ⟨Int.le_refl _, by show (0 : Int) ≤ 6 * ((0 : Nat) : Int); omega⟩
  | v + 1 => by
    have ih := bS_all (b := b) hNa v
    have e : bS M a b (v + 1) = bS M a b v + mn (cP (fun x => M a 4 x = v) (M a 0 0).toNat) (cP (fun x => M b 4 x = v) (M b 0 0).toNat) := rfl
    have c1 := cP_bd (fun x => M a 4 x = v) (M a 0 0).toNat
    have c2 := cP_bd (fun x => M b 4 x = v) (M b 0 0).toNat
    have n := hNa.1
    have m : 0 ≤ mn (cP (fun x => M a 4 x = v) (M a 0 0).toNat) (cP (fun x => M b 4 x = v) (M b 0 0).toNat) ∧ mn (cP (fun x => M a 4 x = v) (M a 0 0).toNat) (cP (fun x => M b 4 x = v) (M b 0 0).toNat) ≤ 6 := by
      unfold mn
      split <;> omega
    omega
def bnd0 (k s : Int) : Int := k + s
noncomputable def bnd (M : jM) (a b : Int) : Int := bnd0 (bK M a b 16) (bS M a b 10)
theorem bnd_bd {M : jM} {a b : Int} (hNa : jNB M a) (hNb : jNB M b) (hH : jHs M a) : 0 ≤ bnd M a b ∧ bnd M a b < 20000 := by
  have h1 := bK_all hNa hNb hH 16
  have h2 := bS_all (b := b) hNa 10
  unfold bnd bnd0
  omega
theorem c_boundOf {M : jM} {a b : Int} (ha : 0 ≤ a ∧ a < 18) (hb : 0 ≤ b ∧ b < 18) (hNa : jNB M a) (hNb : jNB M b) (hH : jHs M a) : jCallP 1 164 [.inr (a, 0), .inr (b, 0)] M (fun r M' => r = bnd M a b ∧ M' = M) := by
  have n1 := hNa.2
  have k16 := bK_all hNa hNb hH 16
  refine jstart (by decide) rfl (fX6_boundOf_0 ?_)
  have sl : ∀ j n : Nat, n + j = 10 → jWP 1 164 96 [some (.inr (a, 0)), some (.inr (b, 0)), some (.inl (bK M a b 16 + bS M a b n)), some (.inl (n : Int)), none, none] [] M (fun r M' => r = bnd M a b ∧ M' = M) := by
    intro j
    induction j with
    | zero =>
      intro n hn
      have : n = 10 := by omega
      subst this
      exact fX6_boundOf_96 ⟨fun _ => ⟨rfl, rfl⟩, fun z => by exfalso; omega⟩
    | succ j ih =>
      intro n hn
      have hi := ih (n + 1) (by omega)
      refine fX6_boundOf_96 ⟨fun z => by exfalso; omega, fun _ => ?_⟩
      refine jc (c_countOfSort ha hNa) (by decide) ?_
      refine jc (c_countOfSort hb hNb) (by decide) ?_
      have s1 := bS_all (b := b) hNa n
      have s2 := bS_all (b := b) hNa (n + 1)
      have e : bS M a b (n + 1) = bS M a b n + mn (cP (fun x => M a 4 x = n) (M a 0 0).toNat) (cP (fun x => M b 4 x = n) (M b 0 0).toNat) := rfl
      have en : (n : Int) + 1 = ((n + 1 : Nat) : Int) := by omega
      rw [show (if cP (fun x => M b 4 x = n) (M b 0 0).toNat < cP (fun x => M a 4 x = n) (M a 0 0).toNat then cP (fun x => M b 4 x = n) (M b 0 0).toNat else cP (fun x => M a 4 x = n) (M a 0 0).toNat) = mn (cP (fun x => M a 4 x = n) (M a 0 0).toNat) (cP (fun x => M b 4 x = n) (M b 0 0).toNat) from rfl]
      rw [jwr_id (z := bK M a b 16 + bS M a b n + mn (cP (fun x => M a 4 x = n) (M a 0 0).toNat) (cP (fun x => M b 4 x = n) (M b 0 0).toNat)) (by omega) (by omega), jwr_id (by omega) (by omega), en]
      rwa [e, ← Int.add_assoc] at hi
  have kl : ∀ j n : Nat, n + j = 16 → jWP 1 164 4 [some (.inr (a, 0)), some (.inr (b, 0)), some (.inl (bK M a b n)), some (.inl (n : Int)), none, none] [] M (fun r M' => r = bnd M a b ∧ M' = M) := by
    intro j
    induction j with
    | zero =>
      intro n hn
      have : n = 16 := by omega
      subst this
      have h := sl 10 0 (by omega)
      rw [show bS M a b 0 = 0 from rfl, Int.add_zero] at h
      exact fX6_boundOf_4 ⟨fun _ => h, fun z => by exfalso; omega⟩
    | succ j ih =>
      intro k hk
      have hi := ih (k + 1) (by omega)
      refine fX6_boundOf_4 ⟨fun z => by exfalso; omega, fun _ => ?_⟩
      have hl : ∀ j n : Nat, ((n + j : Nat) : Int) = M a 0 1 → jWP 1 164 16 [some (.inr (a, 0)), some (.inr (b, 0)), some (.inl (bK M a b k)), some (.inl (k : Int)), some (.inl (hgh M a k n)), some (.inl (n : Int))] [] M (fun r M' => r = bnd M a b ∧ M' = M) := by
        intro j
        induction j with
        | zero =>
          intro n hn
          have kb := bK_all hNa hNb hH k
          have kb2 := bK_all hNa hNb hH (k + 1)
          obtain ⟨m1, m2, m3, m4⟩ := bK_bd (a := a) (b := b) hNa hNb hH k
          have e : bK M a b (k + 1) = bK M a b k + mn (cI (M a 5) k (M a 0 1)) (cI (M b 5) k (M b 0 1)) * 6 * hgh M a k (M a 0 1).toNat := rfl
          have ek : (k : Int) + 1 = ((k + 1 : Nat) : Int) := by omega
          have eN : (M a 0 1).toNat = n := by omega
          have hb14 := hgh_bd (k := k) hH n (by omega)
          rw [eN] at e m3 m4
          refine fX6_boundOf_16 ⟨ha, fun _ => ⟨fun z => ?_, fun z => ⟨ha, jc (c_countOfKind ha hNa k) (by decide) ⟨hb, jc (c_countOfKind hb hNb k) (by decide) ?_⟩⟩⟩, fun z => by exfalso; omega⟩
          · rw [jwr_id (by omega) (by omega), ek]
            rw [show hgh M a k n = 0 by omega, Int.mul_zero, Int.add_zero] at e
            rwa [e] at hi
          · rw [show (if cI (M b 5) k (M b 0 1) < cI (M a 5) k (M a 0 1) then cI (M b 5) k (M b 0 1) else cI (M a 5) k (M a 0 1)) = mn (cI (M a 5) k (M a 0 1)) (cI (M b 5) k (M b 0 1)) from rfl]
            rw [jwr_id (z := mn (cI (M a 5) k (M a 0 1)) (cI (M b 5) k (M b 0 1)) * 6) (by omega) (by omega), jwr_id (z := mn (cI (M a 5) k (M a 0 1)) (cI (M b 5) k (M b 0 1)) * 6 * hgh M a k n) (by omega) (by omega), jwr_id (z := bK M a b k + mn (cI (M a 5) k (M a 0 1)) (cI (M b 5) k (M b 0 1)) * 6 * hgh M a k n) (by omega) (by omega), jwr_id (by omega) (by omega), ek]
            rwa [e] at hi
        | succ j ih2 =>
          intro n hn
          have hi2 := ih2 (n + 1) (by omega)
          have en : (n : Int) + 1 = ((n + 1 : Nat) : Int) := by omega
          have e : hgh M a k (n + 1) = if M a 5 n = k then (if hgh M a k n < M a 8 n then M a 8 n else hgh M a k n) else hgh M a k n := rfl
          refine fX6_boundOf_16 ⟨ha, fun z => by exfalso; omega, fun _ => ⟨ha, ⟨by omega, by rw [jal_n5 ha]; omega⟩, fun z => ?_, fun z => ⟨ha, ⟨by omega, by rw [jal_n8 ha]; omega⟩, ?_⟩⟩⟩
          all_goals rw [jwr_id (by omega) (by omega), en]
          · rwa [e, if_neg z] at hi2
          · rwa [e, if_pos z] at hi2
      exact hl (M a 0 1).toNat 0 (by omega)
  exact kl 16 0 (by omega)
