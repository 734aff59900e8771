/-! boundOf -/
theorem cI_bd2 (f : Int → Int) (k : Int) : ∀ n : Nat, 0 ≤ cI f k n ∧ cI f k n ≤ n
  | 0 => by
    have : cI f k ((0 : Nat) : Int) = 0 := rfl
    omega
  | n + 1 => by
    have ih := cI_bd2 f k n
    have e := cI_s (f := f) (k := k) (n := (n : Int)) (by omega)
    rw [show ((n + 1 : Nat) : Int) = (n : Int) + 1 by omega, e]
    split <;> omega
def hgh (M : jM) (g k : Int) : Nat → Int
  | 0 => 0
  | n + 1 => if M g 5 n = k then (if hgh M g k n < M g 8 n then M g 8 n else hgh M g k n) else hgh M g k n
theorem hgh_bd {M : jM} {g k : Int} (hH : jHs M g) : ∀ n : Nat, (n : Int) ≤ M g 0 1 → 0 ≤ hgh M g k n ∧ hgh M g k n ≤ 14
  | 0, _ => ⟨Int.le_refl _, by show (0 : Int) ≤ 14; omega⟩
  | n + 1, hn => by
    have ih := hgh_bd (k := k) hH n (by omega)
    have := hH n (by omega) (by omega)
    unfold hgh
    split
    · split <;> omega
    · omega
def mn (x y : Int) : Int := if y < x then y else x
def bK (M : jM) (a b : Int) : Nat → Int
  | 0 => 0
  | k + 1 => bK M a b k + mn (cI (M a 5) k (M a 0 1)) (cI (M b 5) k (M b 0 1)) * 6 * hgh M a k (M a 0 1).toNat
noncomputable def bS (M : jM) (a b : Int) : Nat → Int
  | 0 => 0
  | v + 1 => bS M a b v + mn (cP (fun x => M a 4 x = v) (M a 0 0).toNat) (cP (fun x => M b 4 x = v) (M b 0 0).toNat)
theorem bK_bd {M : jM} {a b : Int} (hNa : jNB M a) (hNb : jNB M b) (hH : jHs M a) (k : Nat) : 0 ≤ mn (cI (M a 5) k (M a 0 1)) (cI (M b 5) k (M b 0 1)) ∧ mn (cI (M a 5) k (M a 0 1)) (cI (M b 5) k (M b 0 1)) ≤ 14 ∧ 0 ≤ mn (cI (M a 5) k (M a 0 1)) (cI (M b 5) k (M b 0 1)) * 6 * hgh M a k (M a 0 1).toNat ∧ mn (cI (M a 5) k (M a 0 1)) (cI (M b 5) k (M b 0 1)) * 6 * hgh M a k (M a 0 1).toNat ≤ 1176 := by
  have n1 := hNa.2
  have n2 := hNb.2
  have c1 := cI_bd2 (M a 5) k (M a 0 1).toNat
  have c2 := cI_bd2 (M b 5) k (M b 0 1).toNat
  rw [Int.toNat_of_nonneg n1.1] at c1
  rw [Int.toNat_of_nonneg n2.1] at c2
  have hb := hgh_bd (k := k) hH (M a 0 1).toNat (by omega)
  have m : 0 ≤ mn (cI (M a 5) k (M a 0 1)) (cI (M b 5) k (M b 0 1)) ∧ mn (cI (M a 5) k (M a 0 1)) (cI (M b 5) k (M b 0 1)) ≤ 14 := by
    unfold mn
    split <;> omega
  refine ⟨m.1, m.2, Int.mul_nonneg (by omega) hb.1, ?_⟩
  have := Int.mul_le_mul (a := mn (cI (M a 5) k (M a 0 1)) (cI (M b 5) k (M b 0 1)) * 6) (b := hgh M a k (M a 0 1).toNat) (c := 84) (d := 14) (by omega) hb.2 hb.1 (by omega)
  omega
