/-! bitCount, the lowest bit -/
noncomputable def cP (P : Int → Prop) (n : Nat) : Int := uS P (fun _ => 1) n
theorem cP_succ (P : Int → Prop) (n : Nat) : cP P (n + 1) = cP P n + @ite _ (P n) (Classical.propDecidable _) 1 0 := rfl
theorem cP_yes {P : Int → Prop} {n : Nat} (h : P n) : cP P (n + 1) = cP P n + 1 := by rw [cP_succ, if_pos h]
theorem cP_no {P : Int → Prop} {n : Nat} (h : ¬ P n) : cP P (n + 1) = cP P n := by rw [cP_succ, if_neg h, Int.add_zero]
theorem isM_lt64 {x : Int} {P : Int → Prop} (h : isM x P) (hP : ∀ j, P j → j < 6) : ∃ n : Nat, n < 64 ∧ x = n := by
  have h31 : ¬ P 31 := fun q => by have := hP 31 q; omega
  have h0 := isM_nonneg h h31
  have hb : (jI x).toBitVec.toNat < 2 ^ 6 := by
    refine Nat.lt_pow_two_of_testBit _ (fun i hi => ?_)
    by_cases hi2 : i < 32
    · cases hc : (jI x).toBitVec.toNat.testBit i
      · rfl
      · have := (h.2 i (by omega) (by omega)).mp (by rw [Int.toNat_natCast]; exact hc)
        have := hP _ this
        omega
    · exact Nat.testBit_lt_two_pow (Nat.lt_of_lt_of_le (jI x).toBitVec.isLt (Nat.pow_le_pow_right (by omega) (by omega)))
  have h5 : (jI x).toBitVec.toInt = x := h.1
  refine ⟨(jI x).toBitVec.toNat, hb, ?_⟩
  have h6 := BitVec.toInt_eq_toNat_of_lt (x := (jI x).toBitVec) (by omega)
  omega
theorem low_all : ∀ n : Nat, n < 64 → n = 0 ∨ ∃ k : Nat, k < 6 ∧ ¬ jiand (jishr n k) 1 = 0 ∧ jiand n (jwr (-n)) = jishl 1 k := by decide +kernel
/-- the lowest of a set -/
theorem isM_low {x : Int} {P : Int → Prop} (h : isM x P) (hP : ∀ j, P j → j < 6) (hx : ¬ x = 0) : ∃ k : Int, 0 ≤ k ∧ k < 6 ∧ P k ∧ jiand x (jwr (-x)) = jishl 1 k := by
  obtain ⟨n, hn, rfl⟩ := isM_lt64 h hP
  rcases low_all n hn with q | ⟨k, h1, h2, h3⟩
  · exact absurd (by rw [q]; rfl) hx
  · refine ⟨k, by omega, by omega, ?_, h3⟩
    by_cases y : P k
    · exact y
    · exact absurd ((h.test (by omega) (by omega)).mpr y) h2
def bcE (v0 : Int) : Int := (jiand (jwr ((jwr ((jiand (jwr ((jwr ((jiand (jwr (v0 - (jiand (jiushr v0 1) ((1431655765 : Nat) : Int)))) ((858993459 : Nat) : Int)) + (jiand (jiushr (jwr (v0 - (jiand (jiushr v0 1) ((1431655765 : Nat) : Int)))) 2) ((858993459 : Nat) : Int)))) + (jiushr (jwr ((jiand (jwr (v0 - (jiand (jiushr v0 1) ((1431655765 : Nat) : Int)))) ((858993459 : Nat) : Int)) + (jiand (jiushr (jwr (v0 - (jiand (jiushr v0 1) ((1431655765 : Nat) : Int)))) 2) ((858993459 : Nat) : Int)))) 4))) ((252645135 : Nat) : Int)) + (jiushr (jiand (jwr ((jwr ((jiand (jwr (v0 - (jiand (jiushr v0 1) ((1431655765 : Nat) : Int)))) ((858993459 : Nat) : Int)) + (jiand (jiushr (jwr (v0 - (jiand (jiushr v0 1) ((1431655765 : Nat) : Int)))) 2) ((858993459 : Nat) : Int)))) + (jiushr (jwr ((jiand (jwr (v0 - (jiand (jiushr v0 1) ((1431655765 : Nat) : Int)))) ((858993459 : Nat) : Int)) + (jiand (jiushr (jwr (v0 - (jiand (jiushr v0 1) ((1431655765 : Nat) : Int)))) 2) ((858993459 : Nat) : Int)))) 4))) ((252645135 : Nat) : Int)) 8))) + (jiushr (jwr ((jiand (jwr ((jwr ((jiand (jwr (v0 - (jiand (jiushr v0 1) ((1431655765 : Nat) : Int)))) ((858993459 : Nat) : Int)) + (jiand (jiushr (jwr (v0 - (jiand (jiushr v0 1) ((1431655765 : Nat) : Int)))) 2) ((858993459 : Nat) : Int)))) + (jiushr (jwr ((jiand (jwr (v0 - (jiand (jiushr v0 1) ((1431655765 : Nat) : Int)))) ((858993459 : Nat) : Int)) + (jiand (jiushr (jwr (v0 - (jiand (jiushr v0 1) ((1431655765 : Nat) : Int)))) 2) ((858993459 : Nat) : Int)))) 4))) ((252645135 : Nat) : Int)) + (jiushr (jiand (jwr ((jwr ((jiand (jwr (v0 - (jiand (jiushr v0 1) ((1431655765 : Nat) : Int)))) ((858993459 : Nat) : Int)) + (jiand (jiushr (jwr (v0 - (jiand (jiushr v0 1) ((1431655765 : Nat) : Int)))) 2) ((858993459 : Nat) : Int)))) + (jiushr (jwr ((jiand (jwr (v0 - (jiand (jiushr v0 1) ((1431655765 : Nat) : Int)))) ((858993459 : Nat) : Int)) + (jiand (jiushr (jwr (v0 - (jiand (jiushr v0 1) ((1431655765 : Nat) : Int)))) 2) ((858993459 : Nat) : Int)))) 4))) ((252645135 : Nat) : Int)) 8))) 16))) 63)
def bcS (v : Int) : Nat → Int
  | 0 => 0
  | n + 1 => bcS v n + (if jiand (jishr v n) 1 = 0 then 0 else 1)
theorem bc_all : ∀ n : Nat, n < 64 → bcE n = bcS n 6 := by decide +kernel
theorem bcS_cP {x : Int} {P : Int → Prop} (h : isM x P) : ∀ n : Nat, n ≤ 32 → bcS x n = cP P n
  | 0, _ => rfl
  | n + 1, hn => by
    unfold bcS
    rw [bcS_cP h n (by omega)]
    by_cases y : P n
    · rw [cP_yes y, if_neg (fun q => (h.test (by omega) (by omega)).mp q y)]
    · rw [cP_no y, if_pos ((h.test (by omega) (by omega)).mpr y), Int.add_zero]
theorem c_bitCount {M : jM} {x : Int} {P : Int → Prop} (h : isM x P) (hP : ∀ j, P j → j < 6) : jCallP 0 181 [.inl x] M (fun r M' => r = cP P 6 ∧ M' = M) := by
  obtain ⟨n, hn, rfl⟩ := isM_lt64 h hP
  refine jstart (by decide) rfl (fJ6_bitCount_0 ?_)
  refine ⟨?_, rfl⟩
  show bcE n = _
  rw [bc_all n hn, bcS_cP h 6 (by omega)]
