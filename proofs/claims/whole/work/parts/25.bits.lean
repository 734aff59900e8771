/-! ===== Int32 by its bits: bt x i ===== -/
def bt (x : Int32) (i : Nat) : Bool := x.toBitVec.getLsbD i
theorem b_ext {x y : Int32} (h : ∀ i, i < 32 → bt x i = bt y i) : x = y := Int32.toBitVec_inj.mp (BitVec.eq_of_getLsbD_eq (fun i hi => h i hi))
theorem b_or (x y : Int32) (i : Nat) : bt (x ||| y) i = (bt x i || bt y i) := by unfold bt; rw [Int32.toBitVec_or, BitVec.getLsbD_or]
theorem b_and (x y : Int32) (i : Nat) : bt (x &&& y) i = (bt x i && bt y i) := by unfold bt; rw [Int32.toBitVec_and, BitVec.getLsbD_and]
theorem b_xor (x y : Int32) (i : Nat) : bt (x ^^^ y) i = (bt x i ^^ bt y i) := by unfold bt; rw [Int32.toBitVec_xor, BitVec.getLsbD_xor]
theorem b_big {x : Int32} {i : Nat} (h : 32 ≤ i) : bt x i = false := BitVec.getLsbD_of_ge _ _ h
theorem b_m1 : ∀ i, i < 32 → bt (-1) i = true := by decide +kernel
theorem b_0 (i : Nat) : bt 0 i = false := BitVec.getLsbD_zero
theorem s_l : ∀ n, n < 32 → ((nI n &&& 31).toBitVec.smod 32).toNat = n := by decide +kernel
theorem b_shl (n : Nat) (hn : n < 32) (x : Int32) {i : Nat} (hi : i < 32) : bt (x <<< (nI n &&& 31)) i = (decide (n ≤ i) && bt x (i - n)) := by
  unfold bt
  rw [Int32.toBitVec_shiftLeft]
  show (x.toBitVec <<< ((nI n &&& 31).toBitVec.smod 32).toNat).getLsbD i = _
  rw [s_l n hn, BitVec.getLsbD_shiftLeft]
  rcases Nat.lt_or_ge i n with h | h
  · simp [h, Nat.not_le.mpr h]
  · simp [hi, h, Nat.not_lt.mpr h]
theorem b_sshr (n : Nat) (hn : n < 32) (x : Int32) {i : Nat} (hi : i < 32) : bt (x >>> (nI n &&& 31)) i = if n + i < 32 then bt x (n + i) else bt x 31 := by
  unfold bt
  rw [Int32.toBitVec_shiftRight]
  show (x.toBitVec.sshiftRight ((nI n &&& 31).toBitVec.smod 32).toNat).getLsbD i = _
  rw [s_l n hn, BitVec.getLsbD_sshiftRight, BitVec.msb_eq_getLsbD_last]
  simp [hi]
/-! sets of small numbers as bits of an int -/
theorem jI_nat {n : Nat} (h : n < 2147483648) : jI (n : Int) = nI n := by
  apply Int32.toInt_inj.mp
  rw [jI_toInt, jwr_id (by omega) (by omega)]
  exact (nI_toInt h).symm
def isM (x : Int) (P : Int → Prop) : Prop := jwr x = x ∧ ∀ j : Int, 0 ≤ j → j < 32 → (bt (jI x) j.toNat = true ↔ P j)
theorem isM.congr {x : Int} {P P' : Int → Prop} (h : isM x P) (he : ∀ j, 0 ≤ j → j < 32 → (P j ↔ P' j)) : isM x P' := ⟨h.1, fun j h0 h1 => (h.2 j h0 h1).trans (he j h0 h1)⟩
theorem isM.unique {x y : Int} {P : Int → Prop} (h : isM x P) (h' : isM y P) : x = y := by
  have e : jI x = jI y := b_ext (fun i hi => by
    have h1 := h.2 i (by omega) (by omega)
    have h2 := h'.2 i (by omega) (by omega)
    rw [Int.toNat_natCast] at h1 h2
    cases hb : bt (jI x) i
    · cases hb' : bt (jI y) i
      · rfl
      · exact absurd (h1.mpr (h2.mp hb')) (by rw [hb]; decide)
    · rw [h2.mpr (h1.mp hb)])
  have e2 := congrArg Int32.toInt e
  rw [jI_toInt, jI_toInt, h.1, h'.1] at e2
  exact e2
theorem isM_0 : isM 0 (fun _ => False) := ⟨jwr_0, fun j h0 h1 => by
  rw [jI_0, b_0]
  simp⟩
theorem isM_m1 : isM (-1) (fun _ => True) := ⟨jwr_id (by omega) (by omega), fun j h0 h1 => by
  have : bt (jI (-1)) j.toNat = true := b_m1 j.toNat (by omega)
  simp [this]⟩
theorem isM.or {x y : Int} {P P' : Int → Prop} (h : isM x P) (h' : isM y P') : isM (jior x y) (fun j => P j ∨ P' j) := ⟨jwr_to _, fun j h0 h1 => by
  unfold jior
  rw [jI_to, b_or, Bool.or_eq_true, h.2 j h0 h1, h'.2 j h0 h1]⟩
theorem isM.and {x y : Int} {P P' : Int → Prop} (h : isM x P) (h' : isM y P') : isM (jiand x y) (fun j => P j ∧ P' j) := ⟨jwr_to _, fun j h0 h1 => by
  unfold jiand
  rw [jI_to, b_and, Bool.and_eq_true, h.2 j h0 h1, h'.2 j h0 h1]⟩
theorem isM.not {x : Int} {P : Int → Prop} (h : isM x P) : isM (jixor x (-1)) (fun j => ¬ P j) := ⟨jwr_to _, fun j h0 h1 => by
  unfold jixor
  have e1 : bt (jI (-1)) j.toNat = true := b_m1 j.toNat (by omega)
  show _ ↔ ¬ P j
  rw [jI_to, b_xor, e1, ← h.2 j h0 h1]
  cases bt (jI x) j.toNat <;> simp⟩
theorem isM_1 : isM 1 (fun j => j = 0) := ⟨jwr_id (by omega) (by omega), fun j h0 h1 => by
  have hall : ∀ n : Nat, n < 32 → (bt (jI 1) n = true ↔ n = 0) := by decide +kernel
  rw [hall j.toNat (by omega)]
  omega⟩
theorem isM_bit {k : Int} (h0 : 0 ≤ k) (h1 : k < 32) : isM (jishl 1 k) (fun j => j = k) := ⟨jwr_to _, fun j j0 j1 => by
  unfold jishl
  obtain ⟨n, rfl⟩ : ∃ n : Nat, k = n := ⟨k.toNat, by omega⟩
  rw [jI_to, jI_nat (by omega), b_shl n (by omega) _ (by omega)]
  have h := isM_1.2
  by_cases hn : n ≤ j.toNat
  · have h2 := h (j - n) (by omega) (by omega)
    rw [show (j - n).toNat = j.toNat - n by omega] at h2
    rw [decide_eq_true hn, Bool.true_and, h2]
    omega
  · rw [decide_eq_false hn, Bool.false_and]
    constructor
    · intro q; cases q
    · intro q; omega⟩
theorem isM.shr {x : Int} {P : Int → Prop} (h : isM x P) {k : Int} (h0 : 0 ≤ k) (h1 : k < 32) : isM (jishr x k) (fun j => if k + j < 32 then P (k + j) else P 31) := ⟨jwr_to _, fun j j0 j1 => by
  unfold jishr
  obtain ⟨n, rfl⟩ : ∃ n : Nat, k = n := ⟨k.toNat, by omega⟩
  show _ ↔ (if (n : Int) + j < 32 then P (n + j) else P 31)
  rw [jI_to, jI_nat (by omega), b_sshr n (by omega) _ (by omega)]
  by_cases hn : n + j.toNat < 32
  · have h2 := h.2 (n + j) (by omega) (by omega)
    rw [show ((n : Int) + j).toNat = n + j.toNat by omega] at h2
    rw [if_pos hn, if_pos (by omega), h2]
  · have h2 := h.2 31 (by omega) (by omega)
    rw [if_neg hn, if_neg (by omega)]
    exact h2⟩
theorem isM.zero {x : Int} {P : Int → Prop} (h : isM x P) : x = 0 ↔ ∀ j, 0 ≤ j → j < 32 → ¬ P j := by
  constructor
  · rintro rfl j j0 j1 q
    have := (h.2 j j0 j1).mpr q
    rw [jI_0, b_0] at this
    cases this
  · intro hn
    exact h.unique (isM_0.congr (fun j j0 j1 => ⟨fun q => q.elim, fun q => hn j j0 j1 q⟩))
theorem isM.test {x : Int} {P : Int → Prop} (h : isM x P) {k : Int} (h0 : 0 ≤ k) (h1 : k < 32) : jiand (jishr x k) 1 = 0 ↔ ¬ P k := by
  rw [((h.shr h0 h1).and isM_1).zero]
  constructor
  · intro hh q
    refine hh 0 (by omega) (by omega) ⟨?_, rfl⟩
    rw [if_pos (by omega), Int.add_zero]
    exact q
  · rintro hn j j0 j1 ⟨q, rfl⟩
    rw [if_pos (by omega), Int.add_zero] at q
    exact hn q
theorem isM.test1 {x : Int} {P : Int → Prop} (h : isM x P) {k : Int} (h0 : 0 ≤ k) (h1 : k < 32) : jiand (jishr x k) 1 = 0 ∨ jiand (jishr x k) 1 = 1 := by
  by_cases q : P k
  · refine Or.inr (((h.shr h0 h1).and isM_1).unique (isM_1.congr (fun j j0 j1 => ⟨fun e => ⟨?_, e⟩, fun e => e.2⟩)))
    rw [e, if_pos (by omega), Int.add_zero]
    exact q
  · exact Or.inl ((h.test h0 h1).mpr q)
theorem isM.shr0 {x : Int} {P : Int → Prop} (h : isM x P) (h31 : ¬ P 31) {k : Int} (h0 : 0 ≤ k) (h1 : k < 32) : jishr x k = 0 ↔ ∀ j, k ≤ j → j < 32 → ¬ P j := by
  rw [(h.shr h0 h1).zero]
  constructor
  · intro hh j j0 j1 q
    have := hh (j - k) (by omega) (by omega)
    rw [if_pos (by omega), show k + (j - k) = j by omega] at this
    exact this q
  · intro hh j j0 j1 q
    by_cases hj : k + j < 32
    · rw [if_pos hj] at q
      exact hh _ (by omega) hj q
    · rw [if_neg hj] at q
      exact h31 q
/-- every small number is some set -/
theorem isM_self {x : Int} (h : jwr x = x) : isM x (fun j => bt (jI x) j.toNat = true) := ⟨h, fun j _ _ => Iff.rfl⟩
theorem isM_nonneg {x : Int} {P : Int → Prop} (h : isM x P) (h31 : ¬ P 31) : 0 ≤ x := by
  have h1 := h.2 31 (by omega) (by omega)
  have h2 : bt (jI x) 31 = false := by
    cases hb : bt (jI x) 31
    · rfl
    · exact absurd (h1.mp hb) h31
  have h3 : (jI x).toBitVec.msb = false := by
    rw [BitVec.msb_eq_getLsbD_last]
    exact h2
  have h4 : 0 ≤ (jI x).toBitVec.toInt := by
    rw [BitVec.toInt_eq_msb_cond, h3]
    simp
  have h5 : (jI x).toInt = x := h.1
  rw [← h5]
  exact h4
