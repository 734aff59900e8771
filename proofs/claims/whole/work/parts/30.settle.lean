/-! the answers by a pairing -/
def sOrd (x y u v : Int) : Prop := (x < y ↔ u < v) ∧ (y < x ↔ v < u)
def oos (C : jM) (a b i k ak j : Int) : Prop := (¬ C a 7 i = -1 ∧ ¬ C a 7 k = -1 ∧ ¬ C b 7 ak = -1) ∧ 0 ≤ C b 7 j ∧ ¬ sOrd (C a 7 k) (C a 7 i) (C b 7 ak) (C b 7 j)
def goes (C : jM) (a b : Int) (A : Int → Int) (i j : Int) : Prop := ∀ k, 0 ≤ k → k < i → 0 ≤ A k → ¬ oos C a b i k (A k) j
def sLS (A : Int → Int) (t j : Int) : Prop := A t = j ∧ 0 ≤ j
def cand (C : jM) (a b lv wg tm : Int) (p A : Int → Int) (i j : Int) : Prop :=
  RA C a b lv wg p (sLS A) (fun _ => False) i j ∧ (∀ k, 0 ≤ k → k < i → ¬ A k = j) ∧ (¬ tm = 0 → goes C a b A i j)
noncomputable def ansF (C : jM) (a b lv wg tm : Int) (p : Int → Int) : Nat → Int → Int
  | 0 => fun _ => -1
  | n + 1 => jfu (ansF C a b lv wg tm p n) n (jfst (cand C a b lv wg tm p (ansF C a b lv wg tm p n) n) (C b 0 1).toNat)
noncomputable def ans (C : jM) (a b lv wg tm : Int) (p : Int → Int) : Int → Int := ansF C a b lv wg tm p (C a 0 1).toNat
theorem ansF_ge (C : jM) (a b lv wg tm : Int) (p : Int → Int) : ∀ (n : Nat) (k : Int), (n : Int) ≤ k → ansF C a b lv wg tm p n k = -1
  | 0, _, _ => rfl
  | n + 1, k, h => by
    unfold ansF
    rw [jfu_ne (by omega)]
    exact ansF_ge C a b lv wg tm p n k (by omega)
theorem ansF_st (C : jM) (a b lv wg tm : Int) (p : Int → Int) (n : Nat) : ∀ (m : Nat) (k : Int), k < n → n ≤ m → ansF C a b lv wg tm p m k = ansF C a b lv wg tm p n k
  | 0, k, h, hm => by rw [show n = 0 by omega]
  | m + 1, k, h, hm => by
    rcases Nat.lt_or_ge m n with q | q
    · rw [show n = m + 1 by omega]
    · have e : ansF C a b lv wg tm p (m + 1) k = ansF C a b lv wg tm p m k := by
        conv => lhs; unfold ansF
        rw [jfu_ne (by omega)]
      rw [e]
      exact ansF_st C a b lv wg tm p n m k h q
theorem ansF_at (C : jM) (a b lv wg tm : Int) (p : Int → Int) (n : Nat) : ansF C a b lv wg tm p (n + 1) n = jfst (cand C a b lv wg tm p (ansF C a b lv wg tm p n) n) (C b 0 1).toNat := by
  conv => lhs; unfold ansF
  rw [jfu_eq]
theorem ansF_bd (C : jM) (a b lv wg tm : Int) (p : Int → Int) (h : 0 ≤ C b 0 1) : ∀ (n : Nat) (k : Int), -1 ≤ ansF C a b lv wg tm p n k ∧ ansF C a b lv wg tm p n k < C b 0 1
  | 0, _ => ⟨Int.le_refl _, by show (-1 : Int) < _; omega⟩
  | n + 1, k => by
    by_cases q : k = n
    · subst q
      rw [ansF_at]
      have := jfst_bd (cand C a b lv wg tm p (ansF C a b lv wg tm p n) n) (C b 0 1).toNat
      omega
    · have e : ansF C a b lv wg tm p (n + 1) k = ansF C a b lv wg tm p n k := by
        conv => lhs; unfold ansF
        rw [jfu_ne q]
      rw [e]
      exact ansF_bd C a b lv wg tm p h n k
/-- what an answer weighs -/
def gI (C : jM) (a b wg i j : Int) : Int := if j = -1 then 0 else if wg = 0 then C a 8 i * (if meet C (C a 5 i) (C b 5 j) = 0 then 6 else if meet C (C a 5 i) (C b 5 j) ≤ 1 then 4 else 3) else 1
def wsum (C : jM) (a b wg : Int) (A : Int → Int) : Nat → Int
  | 0 => 0
  | n + 1 => wsum C a b wg A n + gI C a b wg n (A n)
/-- the ends of the ties are things or ties ahead -/
def jEs (C : jM) (g : Int) : Prop := ∀ i q, 0 ≤ i → i < C g 0 1 → 0 ≤ q → q < 3 → -1 ≤ C g 6 (3 * i + q) ∧ (C g 6 (3 * i + q) < 10 → C g 6 (3 * i + q) < C g 0 0) ∧ C g 6 (3 * i + q) < 10 + i
theorem cnt2 (f : Int → Int) {i k : Int} (h0 : 0 ≤ i) (hik : i < k) (hi : ¬ f i = -1) (hk : ¬ f k = -1) : ∀ n : Nat, (k < n → 2 ≤ cntN f n) ∧ (i < n → 1 ≤ cntN f n) ∧ 0 ≤ cntN f n
  | 0 => ⟨fun h => by omega, fun h => by omega, by
    unfold cntN
    have : cI f (-1) ((0 : Nat) : Int) = 0 := rfl
    omega⟩
  | n + 1 => by
    obtain ⟨a1, a2, a3⟩ := cnt2 f h0 hik hi hk n
    have e : cntN f ((n + 1 : Nat) : Int) = cntN f n + if f n = -1 then 0 else 1 := by
      unfold cntN
      rw [show ((n + 1 : Nat) : Int) = (n : Int) + 1 by omega, cI_s (by omega)]
      split <;> omega
    rw [e]
    refine ⟨fun h => ?_, fun h => ?_, ?_⟩
    · by_cases q : k = n
      · rw [q] at hk
        have := a2 (by omega)
        rw [if_neg hk]
        omega
      · have := a1 (by omega)
        split <;> omega
    · by_cases q : i = n
      · rw [q] at hi
        rw [if_neg hi]
        omega
      · have := a2 (by omega)
        split <;> omega
    · split <;> omega
theorem cnt_one {f : Int → Int} {n i k : Int} (hn : ¬ 1 < cntN f n) (h0 : 0 ≤ i) (h1 : i < n) (h2 : 0 ≤ k) (h3 : k < n) (hik : ¬ i = k) : f i = -1 ∨ f k = -1 := by
  by_cases hi : f i = -1
  · exact Or.inl hi
  · by_cases hk : f k = -1
    · exact Or.inr hk
    · exfalso
      have e : ((n.toNat : Nat) : Int) = n := by omega
      rcases Int.lt_or_le i k with q | q
      · have := (cnt2 f h0 q hi hk n.toNat).1 (by omega)
        rw [e] at this
        omega
      · have := (cnt2 f h2 (by omega) hk hi n.toNat).1 (by omega)
        rw [e] at this
        omega
/-- with a single moment in one of both, nothing is out of order -/
theorem goes_free {C : jM} {a b tm : Int} {A : Int → Int} {i j : Int} (htm : ¬ tm = 0) (hm : ¬ mat C a b tm) (hi : 0 ≤ i ∧ i < C a 0 1) (hj : 0 ≤ j ∧ j < C b 0 1) (hA : ∀ k, A k < C b 0 1) (hno : ∀ k, 0 ≤ k → k < i → ¬ A k = j) : goes C a b A i j := by
  rintro k k0 k1 hk ⟨⟨h1, h2, h3⟩, h4, -⟩
  by_cases q : 1 < cntN (C a 7) (C a 0 1)
  · have q2 : ¬ 1 < cntN (C b 7) (C b 0 1) := fun x => hm ⟨htm, q, x⟩
    rcases cnt_one q2 hk (hA k) hj.1 hj.2 (hno k k0 k1) with x | x
    · exact h3 x
    · omega
  · rcases cnt_one q hi.1 hi.2 k0 (by omega) (by omega) with x | x
    · exact h1 x
    · exact h2 x
theorem c_outOfStep {C M : jM} {a b tm i k ak : Int} (ha : 0 ≤ a ∧ a < 18) (hb : 0 ≤ b ∧ b < 18) (hNa : jNB C a) (hNb : jNB C b) (hOa : jMo C a) (hOb : jMo C b) (hMa : M a = C a) (hMb : M b = C b) (hT : jTm C M a b tm) (hi : 0 ≤ i ∧ i < C a 0 1) (hk : 0 ≤ k ∧ k < C a 0 1) (hak : 0 ≤ ak ∧ ak < C b 0 1) :
    jCallP 0 168 [.inr (21, 0), .inl i, .inl k, .inl ak] M (fun r M' => isM r (fun j => j < C b 0 1 ∧ oos C a b i k ak j) ∧ M' = M) := by
  obtain ⟨h0, h1, h2, h3, h5⟩ := hT
  have n14a := hNa.2.2
  have n14b := hNb.2.2
  have ob := hOb ak hak.1 hak.2
  refine jstart (by decide) rfl (fX7_outOfStep_0 ?_)
  rw [h0, h1, hMa, hMb]
  have nul : (C a 7 i = -1 ∨ C a 7 k = -1 ∨ C b 7 ak = -1) → isM 0 (fun j => j < C b 0 1 ∧ oos C a b i k ak j) := fun h => isM_0.congr (fun j _ _ => ⟨fun q => q.elim, fun q => by
    rcases h with h | h | h
    · exact q.2.1.1 h
    · exact q.2.1.2.1 h
    · exact q.2.1.2.2 h⟩)
  refine ⟨ha, ⟨hi.1, by rw [jal_n7 ha]; omega⟩, ha, ⟨hk.1, by rw [jal_n7 ha]; omega⟩, hb, ⟨hak.1, by rw [jal_n7 hb]; omega⟩, fun q => ⟨nul (Or.inl q), rfl⟩, fun q => ⟨fun q2 => ⟨nul (Or.inr (Or.inl q2)), rfl⟩, fun q2 => ⟨fun q3 => ?_, fun q3 => ⟨nul (Or.inr (Or.inr q3)), rfl⟩⟩⟩⟩
  have m0 : 0 ≤ C b 7 ak := by omega
  obtain ⟨h34, h35⟩ := h3 (C b 7 ak) m0 ob.2
  have b4 : 0 ≤ C b 7 ak ∧ C b 7 ak < jal 21 4 := by rw [jal_21_4]; omega
  have b5 : 0 ≤ C b 7 ak ∧ C b 7 ak < jal 21 5 := by rw [jal_21_5]; omega
  refine ⟨fun q4 => ⟨fun q5 => fX7_outOfStep_87 ⟨fun _ => ⟨b5, (h5.and h35.not).congr (fun j _ _ => ?_), rfl⟩, fun x => absurd rfl x⟩, fun q5 => fX7_outOfStep_87 ⟨fun x => absurd x (by decide), fun _ => ⟨b5, b4, (h35.or h34).congr (fun j _ _ => ?_), rfl⟩⟩⟩, fun q4 => ⟨b4, (h5.and h34.not).congr (fun j _ _ => ?_), rfl⟩⟩
  · unfold oos sOrd
    constructor
    · rintro ⟨⟨x1, x2, x3⟩, x4⟩
      exact ⟨x1, ⟨q, q2, q3⟩, x2, fun y => x4 ⟨x1, x2, y.2.mp (by omega)⟩⟩
    · rintro ⟨x1, -, x2, x3⟩
      refine ⟨⟨x1, x2, ?_⟩, fun y => x3 ⟨⟨fun z => by omega, fun z => by omega⟩, ⟨fun z => by omega, fun z => by omega⟩⟩⟩
      by_cases hj : 0 ≤ j
      · exact (hOb j hj x1).2
      · exfalso; omega
  · unfold oos sOrd
    constructor
    · rintro (⟨x1, x2, x3⟩ | ⟨x1, x2⟩)
      · exact ⟨x1, ⟨q, q2, q3⟩, x2, fun y => by have := y.1.mp q5; omega⟩
      · exact ⟨x1, ⟨q, q2, q3⟩, by omega, fun y => by have := y.1.mp q5; omega⟩
    · rintro ⟨x1, -, x2, x3⟩
      by_cases y : C b 7 j = C b 7 ak
      · exact Or.inr ⟨x1, y⟩
      · refine Or.inl ⟨x1, x2, ?_⟩
        rcases Int.lt_or_le (C b 7 j) (C b 7 ak) with z | z
        · exact z
        · exact absurd ⟨⟨fun _ => by omega, fun _ => q5⟩, ⟨fun w => by omega, fun w => by omega⟩⟩ x3
  · unfold oos sOrd
    constructor
    · rintro ⟨⟨x1, x2, x3⟩, x4⟩
      refine ⟨x1, ⟨q, q2, q3⟩, x2, fun y => x4 ⟨x1, ?_⟩⟩
      rcases Int.lt_or_le (C b 7 ak) (C b 7 j) with z | z
      · have := y.1.mpr z; omega
      · rcases Int.lt_or_le (C b 7 j) (C b 7 ak) with z2 | z2
        · have := y.2.mpr z2; omega
        · omega
    · rintro ⟨x1, -, x2, x3⟩
      refine ⟨⟨x1, x2, ?_⟩, fun y => x3 ⟨⟨fun z => by omega, fun z => by omega⟩, ⟨fun z => by omega, fun z => by omega⟩⟩⟩
      by_cases hj : 0 ≤ j
      · exact (hOb j hj x1).2
      · exfalso; omega
theorem c_inStep {C M : jM} {a b tm i v : Int} {A : Int → Int} {P : Int → Prop} (ha : 0 ≤ a ∧ a < 18) (hb : 0 ≤ b ∧ b < 18) (hNa : jNB C a) (hNb : jNB C b) (hOa : jMo C a) (hOb : jMo C b) (hMa : M a = C a) (hMb : M b = C b) (hT : jTm C M a b tm) (hi : 0 ≤ i ∧ i < C a 0 1)
    (hA : ∀ k, 0 ≤ k → k < i → M 20 7 k = A k ∧ -1 ≤ A k ∧ A k < C b 0 1) (hv : isM v P) (hP : ∀ j, P j → j < C b 0 1) :
    jCallP 1 167 [.inr (21, 0), .inl i, .inl v, .inr (20, 7)] M (fun r M' => isM r (fun j => P j ∧ goes C a b A i j) ∧ M' = M) := by
  have n14a := hNa.2.2
  refine jstart (by decide) rfl (fX7_inStep_0 ?_)
  have key : ∀ n, 0 ≤ n → n ≤ i → ∀ v : Int, isM v (fun j => P j ∧ ∀ k, 0 ≤ k → k < n → 0 ≤ A k → ¬ oos C a b i k (A k) j) → jWP 1 167 6 [some (.inr (21, 0)), some (.inl i), none, some (.inr (20, 7)), some (.inl v), some (.inl n)] [] M (fun r M' => isM r (fun j => P j ∧ goes C a b A i j) ∧ M' = M) := by
    refine jloop (e := i) (fun v hv => ?_) (fun n n0 n1 ih v hv => ?_)
    · exact fX7_inStep_6 ⟨fun _ => ⟨hv, rfl⟩, fun q => by exfalso; omega⟩
    · obtain ⟨e1, e2, e3⟩ := hA n n0 n1
      refine fX7_inStep_6 ⟨fun q => by exfalso; omega, fun _ => ⟨by rw [jal_20_7]; omega, fun q => by rw [jal_20_7] at q; exfalso; omega, fun _ => ⟨fun q => ⟨?_, rfl⟩, fun _ => ⟨⟨n0, by rw [jal_20_7]; omega⟩, ?_⟩⟩⟩⟩
      · refine hv.congr (fun j j0 j1 => ⟨fun x => absurd x (hv.zero.mp q j j0 j1), fun x => ⟨x.1, fun k k0 k1 k2 => x.2 k k0 (by omega) k2⟩⟩)
      · rw [e1, jwr_id (z := n + 1) (by omega) (by omega)]
        refine ⟨fun q => ih v (hv.congr (fun j _ _ => ⟨fun x => ⟨x.1, fun k k0 k1 k2 => ?_⟩, fun x => ⟨x.1, fun k k0 k1 k2 => x.2 k k0 (by omega) k2⟩⟩)), fun q => ⟨⟨n0, by rw [jal_20_7]; omega⟩, ?_⟩⟩
        · by_cases y : k = n
          · rw [y] at k2; omega
          · exact x.2 k k0 (by omega) k2
        · refine jcq (c_outOfStep ha hb hNa hNb hOa hOb hMa hMb hT hi ⟨n0, by omega⟩ ⟨by omega, e3⟩) (by decide) ?_
          rintro r1 M1 ⟨g1, rfl⟩
          refine ih _ ((hv.and g1.not).congr (fun j _ _ => ⟨fun x => ⟨x.1.1, fun k k0 k1 k2 => ?_⟩, fun x => ⟨⟨x.1, fun k k0 k1 k2 => x.2 k k0 (by omega) k2⟩, fun y => x.2 n n0 (by omega) (by omega) y.2⟩⟩))
          by_cases y : k = n
          · subst y
            exact fun z => x.2 ⟨hP j x.1.1, z⟩
          · exact x.1.2 k k0 (by omega) k2
  exact key 0 (by omega) hi.1 v (hv.congr (fun j _ _ => ⟨fun x => ⟨x, fun k k0 k1 => by omega⟩, fun x => x.1⟩))
/-- heights are 1 to 14 -/
theorem gI_bd {C : jM} {a b wg i j : Int} (hH : 1 ≤ C a 8 i ∧ C a 8 i ≤ 14) : 0 ≤ gI C a b wg i j ∧ gI C a b wg i j ≤ 84 := by
  unfold gI
  split
  · omega
  · split
    · split
      · omega
      · split <;> omega
    · omega
theorem wsum_bd {C : jM} {a b wg : Int} {A : Int → Int} (hH : ∀ i, 0 ≤ i → i < C a 0 1 → 1 ≤ C a 8 i ∧ C a 8 i ≤ 14) : ∀ n : Nat, (n : Int) ≤ C a 0 1 → 0 ≤ wsum C a b wg A n ∧ wsum C a b wg A n ≤ 84 * n
  | 0, _ => ⟨Int.le_refl 0, Int.le_refl 0⟩
  | n + 1, h => by
    have ih := wsum_bd hH n (A := A) (b := b) (wg := wg) (by omega)
    have := gI_bd (b := b) (wg := wg) (j := A n) (hH n (by omega) (by omega))
    unfold wsum
    omega
theorem wsum_congr {C : jM} {a b wg : Int} {A A' : Int → Int} : ∀ n : Nat, (∀ k : Int, 0 ≤ k → k < n → A k = A' k) → wsum C a b wg A n = wsum C a b wg A' n
  | 0, _ => rfl
  | n + 1, h => by
    unfold wsum
    rw [wsum_congr n (fun k k0 k1 => h k k0 (by omega)), h n (by omega) (by omega)]
def jHs (C : jM) (g : Int) : Prop := ∀ i, 0 ≤ i → i < C g 0 1 → 1 ≤ C g 8 i ∧ C g 8 i ≤ 14
theorem c_settle {C M : jM} {a b lv wg tm : Int} {p : Int → Int} (hTa : jTl C a) (hTb : jTl C b) (hEa : jEs C a) (hHa : jHs C a) (hR : jRdy C M a b lv tm wg) (hp : ∀ x, 0 ≤ x → x < C a 0 0 → M 20 6 x = p x ∧ -1 ≤ p x ∧ p x < 6) :
    jCallP 2 115 [.inr (20, 0)] M (fun r M' => r = wsum C a b wg (ans C a b lv wg tm p) (C a 0 1).toNat ∧ (∀ i, 0 ≤ i → i < C a 0 1 → M' 20 7 i = ans C a b lv wg tm p i ∧ isM (M' 20 8 i) (sLS (ans C a b lv wg tm p) i)) ∧ ∀ x y, ¬ (x = 20 ∧ (y = 7 ∨ y = 8)) → M' x y = M x y) := by
  obtain ⟨ha, hNa, hKa, hOa⟩ := hTa
  obtain ⟨hb, hNb, hKb, hOb⟩ := hTb
  obtain ⟨h1, h2, h3, hT, hC, hH, h19, hMa, hMb⟩ := hR
  have n14a := hNa.2.2
  have n14b := hNb.2.2
  have hTn : (((C a 0 1).toNat : Nat) : Int) = C a 0 1 := by have := hNa.2.1; omega
  refine jstart (by decide) rfl (fX0_settle_0 ?_)
  have key : ∀ k (n : Nat), n + k = (C a 0 1).toNat → ∀ (M1 : jM) (v : Int), isM v (fun j => 0 ≤ j ∧ ∃ k, 0 ≤ k ∧ k < (n : Int) ∧ ansF C a b lv wg tm p n k = j) →
      (∀ i, 0 ≤ i → i < (n : Int) → M1 20 7 i = ansF C a b lv wg tm p n i ∧ isM (M1 20 8 i) (sLS (ansF C a b lv wg tm p n) i)) → (∀ x y, ¬ (x = 20 ∧ (y = 7 ∨ y = 8)) → M1 x y = M x y) →
      jWP 2 115 6 [some (.inr (20, 0)), some (.inl (wsum C a b wg (ansF C a b lv wg tm p n) n)), some (.inl v), some (.inl (n : Int)), none, none] [] M1 (fun r M' => r = wsum C a b wg (ans C a b lv wg tm p) (C a 0 1).toNat ∧ (∀ i, 0 ≤ i → i < C a 0 1 → M' 20 7 i = ans C a b lv wg tm p i ∧ isM (M' 20 8 i) (sLS (ans C a b lv wg tm p) i)) ∧ ∀ x y, ¬ (x = 20 ∧ (y = 7 ∨ y = 8)) → M' x y = M x y) := by
    intro k
    induction k with
    | zero =>
      intro n hn M1 v hv hA hf
      have e : n = (C a 0 1).toNat := by omega
      subst e
      have f1 : M1 20 0 1 = a := by rw [hf _ _ (by simp), h1]
      have fa : M1 a 0 1 = C a 0 1 := by rw [hf _ _ (by omega), hMa]
      refine fX0_settle_6 ?_
      rw [f1, fa]
      exact ⟨ha, fun _ => ⟨rfl, fun i i0 i1 => hA i i0 (by omega), hf⟩, fun q => by exfalso; omega⟩
    | succ k ih =>
      intro n hn M1 v hv hA hf
      have hnlt : (n : Int) < C a 0 1 := by omega
      have f1 : M1 20 0 1 = a := by rw [hf _ _ (by simp), h1]
      have f2 : M1 20 0 2 = b := by rw [hf _ _ (by simp), h2]
      have fa : M1 a = C a := by funext y; rw [hf _ _ (by omega), hMa]
      have fb : M1 b = C b := by funext y; rw [hf _ _ (by omega), hMb]
      have f21 : ∀ y, M1 21 y = M 21 y := fun y => hf _ _ (by simp)
      have hT1 : jTm C M1 a b tm := by unfold jTm at hT ⊢; simp only [f21]; exact hT
      have hC1 : jCmp C M1 a b lv wg n (C b 0 1) := by
        have := hC n (by omega) hnlt
        unfold jCmp at this ⊢
        rw [hf 20 9 (by simp), hf 20 10 (by simp), hf 20 11 (by simp), hf 20 12 (by simp)]
        exact this
      have hH1 : jHav C M1 b := fun q e q0 q1 e0 e1 => by rw [hf 20 13 (by simp)]; exact hH q e q0 q1 e0 e1
      have bd := ansF_bd C a b lv wg tm p hNb.2.1 n
      have hE1 : ∀ q, 0 ≤ q → q < 3 → jEnd C M1 b p (sLS (ansF C a b lv wg tm p n)) (fun _ => False) (C a 6 (3 * n + q)) := by
        intro q q0 q1
        obtain ⟨g0, g1, g2⟩ := hEa n q (by omega) hnlt q0 q1
        have hT6 := hNa.1.2
        refine ⟨⟨g0, by omega, fun x => by have := g1 (by omega); omega⟩, fun x0 x1 => ?_, fun x0 => ⟨(hA _ (by omega) (by omega)).2, fun j hj => ⟨hj.2, by have := (bd (C a 6 (3 * n + q) - 10)).2; rw [hj.1] at this; exact this⟩⟩⟩
        obtain ⟨u1, u2, u3⟩ := hp _ x0 (g1 (by omega))
        exact ⟨by rw [hf 20 6 (by simp)]; exact u1, by omega, u3, fun x => by omega⟩
      refine fX0_settle_6 ?_
      rw [f1, fa]
      refine ⟨ha, fun q => by exfalso; omega, fun _ => ?_⟩
      refine jcq (c_reachable (C := C) (p := p) (LS := sLS (ansF C a b lv wg tm p n)) (tk := fun _ => False) ha hb hNa hNb ⟨by omega, hnlt⟩ f1 f2 fa fb hC1 hH1 hE1) (by decide) ?_
      rintro r1 M2 ⟨g1, rfl⟩
      -- the set that the first is taken from
      have main : ∀ s0 : Int, isM s0 (cand C a b lv wg tm p (ansF C a b lv wg tm p n) n) → jWP 2 115 63 [some (.inr (20, 0)), some (.inl (wsum C a b wg (ansF C a b lv wg tm p n) n)), some (.inl v), some (.inl (n : Int)), none, none] [.inl s0, .inr (20, 0), .inl (n : Int), .inr (20, 7)] M2 (fun r M' => r = wsum C a b wg (ans C a b lv wg tm p) (C a 0 1).toNat ∧ (∀ i, 0 ≤ i → i < C a 0 1 → M' 20 7 i = ans C a b lv wg tm p i ∧ isM (M' 20 8 i) (sLS (ans C a b lv wg tm p) i)) ∧ ∀ x y, ¬ (x = 20 ∧ (y = 7 ∨ y = 8)) → M' x y = M x y) := by
        intro s0 hs
        refine fX0_settle_63 ?_
        refine jc (c_firstOf hb hNb f2 fb hs (fun j hj => hj.1.1.2.1)) (by decide) ?_
        rw [← ansF_at C a b lv wg tm p n, jup_eq]
        generalize hj : ansF C a b lv wg tm p (n + 1) n = j0
        have bdj := ansF_bd C a b lv wg tm p hNb.2.1 (n + 1) n
        rw [hj] at bdj
        have eN : ansF C a b lv wg tm p (n + 1) = jfu (ansF C a b lv wg tm p n) n j0 := by
          rw [← hj]
          conv => lhs; unfold ansF
          rw [ansF_at]
        have b7 : 0 ≤ (n : Int) ∧ (n : Int) < jal 20 7 := by rw [jal_20_7]; omega
        have fin : ∀ s1 : Int, isM s1 (fun j => j0 = j ∧ 0 ≤ j) → jWP 2 115 89 [some (.inr (20, 0)), some (.inl (wsum C a b wg (ansF C a b lv wg tm p n) n)), some (.inl v), some (.inl (n : Int)), none, none] [.inl s1] (jup M2 20 7 n j0) (fun r M' => r = wsum C a b wg (ans C a b lv wg tm p) (C a 0 1).toNat ∧ (∀ i, 0 ≤ i → i < C a 0 1 → M' 20 7 i = ans C a b lv wg tm p i ∧ isM (M' 20 8 i) (sLS (ans C a b lv wg tm p) i)) ∧ ∀ x y, ¬ (x = 20 ∧ (y = 7 ∨ y = 8)) → M' x y = M x y) := by
          intro s1 hs1
          refine fX0_settle_89 ?_
          generalize hM3 : jup (jup M2 20 7 n j0) 20 8 n s1 = M3
          have g3 : ∀ x y, ¬ (x = 20 ∧ (y = 7 ∨ y = 8)) → M3 x y = M2 x y := fun x y h => by rw [← hM3, jup_set, jset_ne (fun q => h ⟨q.1, Or.inr q.2⟩), jup_set, jset_ne (fun q => h ⟨q.1, Or.inl q.2⟩)]
          have e1 : M3 20 0 1 = a := by rw [g3 _ _ (by simp), f1]
          have e3 : M3 20 0 3 = wg := by rw [g3 _ _ (by simp), hf _ _ (by simp), h3]
          have ea : M3 a 8 n = C a 8 n := by rw [g3 _ _ (by omega), fa]
          have e11 : M3 20 11 n = M2 20 11 n := by rw [g3 _ _ (by simp)]
          have e12 : M3 20 12 n = M2 20 12 n := by rw [g3 _ _ (by simp)]
          have hh := hHa n (by omega) hnlt
          rw [e1, ea, e11, e12]
          refine ⟨⟨by omega, by rw [jal_20_8]; omega⟩, ha, ⟨by omega, by rw [jal_n8 ha]; omega⟩, ⟨by omega, by rw [jal_20_11]; omega⟩, ⟨by omega, by rw [jal_20_12]; omega⟩, ?_⟩
          refine jc (c_gain (by omega) (by omega)) (by decide) ?_
          have hg : gn (M3 20 0 3) (C a 8 n) (jiand s1 (M2 20 11 n)) (jiand s1 (M2 20 12 n)) s1 = gI C a b wg n j0 := by
            rw [e3]
            have z1 : s1 = 0 ↔ j0 = -1 := by
              rw [hs1.zero]
              constructor
              · intro x
                by_cases y : j0 = -1
                · exact y
                · exact absurd ⟨rfl, by omega⟩ (x j0 (by omega) (by omega))
              · rintro x j j1 j2 ⟨y, y2⟩
                omega
            have z2 : jiand s1 (M2 20 11 n) = 0 ↔ (j0 = -1 ∨ ¬ meet C (C a 5 n) (C b 5 j0) = 0) := by
              rw [(hs1.and hC1.2.2.1).zero]
              constructor
              · intro x
                by_cases y : j0 = -1
                · exact Or.inl y
                · refine Or.inr (fun w => x j0 (by omega) (by omega) ⟨⟨rfl, by omega⟩, ⟨?_, w⟩, bdj.2⟩)
                  have hsp := jfst_sp (cand C a b lv wg tm p (ansF C a b lv wg tm p n) n) (C b 0 1).toNat
                  rw [← ansF_at, hj] at hsp
                  rcases hsp with x1 | x1
                  · exact absurd x1.1 y
                  · exact x1.2.2.1.1.1
              · rintro x j j1 j2 ⟨⟨y, y2⟩, ⟨y3, y4⟩, -⟩
                subst y
                rcases x with x | x
                · omega
                · exact x y4
            have z3 : jiand s1 (M2 20 12 n) = 0 ↔ (j0 = -1 ∨ ¬ meet C (C a 5 n) (C b 5 j0) ≤ 1) := by
              rw [(hs1.and hC1.2.2.2).zero]
              constructor
              · intro x
                by_cases y : j0 = -1
                · exact Or.inl y
                · refine Or.inr (fun w => x j0 (by omega) (by omega) ⟨⟨rfl, by omega⟩, ⟨?_, w⟩, bdj.2⟩)
                  have hsp := jfst_sp (cand C a b lv wg tm p (ansF C a b lv wg tm p n) n) (C b 0 1).toNat
                  rw [← ansF_at, hj] at hsp
                  rcases hsp with x1 | x1
                  · exact absurd x1.1 y
                  · exact x1.2.2.1.1.1
              · rintro x j j1 j2 ⟨⟨y, y2⟩, ⟨y3, y4⟩, -⟩
                subst y
                rcases x with x | x
                · omega
                · exact x y4
            unfold gn gI
            by_cases y : j0 = -1
            · rw [if_pos y, z2.mpr (Or.inl y), z3.mpr (Or.inl y), z1.mpr y]
              by_cases yw : wg = 0
              · rw [if_pos yw, if_neg (fun k => k rfl), if_neg (fun k => k rfl), if_neg (fun k => k rfl)]; omega
              · rw [if_neg yw, if_pos rfl]
            · rw [if_neg y]
              have ns : ¬ s1 = 0 := fun k => y (z1.mp k)
              by_cases yw : wg = 0
              · rw [if_pos yw, if_pos yw]
                by_cases m0 : meet C (C a 5 n) (C b 5 j0) = 0
                · rw [if_pos m0, if_pos (fun k => by rcases z2.mp k with w | w; exact y w; exact w m0)]
                · rw [if_neg m0, if_neg (fun k => k (z2.mpr (Or.inr m0)))]
                  by_cases m1 : meet C (C a 5 n) (C b 5 j0) ≤ 1
                  · rw [if_pos m1, if_pos (fun k => by rcases z3.mp k with w | w; exact y w; exact w m1)]
                  · rw [if_neg m1, if_neg (fun k => k (z3.mpr (Or.inr m1))), if_pos ns]
              · rw [if_neg yw, if_neg yw, if_neg ns]
          rw [hg]
          have wb := wsum_bd (b := b) (wg := wg) (A := ansF C a b lv wg tm p n) hHa n (by omega)
          have gb := gI_bd (b := b) (wg := wg) (j := j0) hh
          rw [jwr_id (z := wsum C a b wg (ansF C a b lv wg tm p n) n + gI C a b wg n j0) (by omega) (by omega), jwr_id (z := (n : Int) + 1) (by omega) (by omega)]
          have ew : wsum C a b wg (ansF C a b lv wg tm p n) n + gI C a b wg n j0 = wsum C a b wg (ansF C a b lv wg tm p (n + 1)) (n + 1) := by
            conv => rhs; unfold wsum
            rw [hj, wsum_congr n (A := ansF C a b lv wg tm p (n + 1)) (A' := ansF C a b lv wg tm p n) (fun k k0 k1 => ansF_st C a b lv wg tm p n (n + 1) k k1 (by omega))]
          rw [ew, show (n : Int) + 1 = ((n + 1 : Nat) : Int) by omega]
          refine ih (n + 1) (by omega) M3 _ ((hv.or hs1).congr (fun j j1 j2 => ⟨fun x => ?_, fun x => ?_⟩)) (fun i i0 i1 => ?_) (fun x y h => by rw [g3 x y h, hf x y h])
          · rcases x with ⟨x0, k9, k0, k1, x⟩ | x
            · exact ⟨x0, k9, k0, by omega, by rw [eN, jfu_ne (by omega)]; exact x⟩
            · exact ⟨x.2, n, by omega, by omega, by rw [eN, jfu_eq]; exact x.1⟩
          · obtain ⟨x0, k9, k0, k1, x⟩ := x
            by_cases y : k9 = n
            · rw [y, eN, jfu_eq] at x
              exact Or.inr ⟨x, x0⟩
            · rw [eN, jfu_ne y] at x
              exact Or.inl ⟨x0, k9, k0, by omega, x⟩
          · by_cases y : i = n
            · subst y
              refine ⟨by rw [← hM3, jup_ne (by simp), jup_eq, eN, jfu_eq], ?_⟩
              rw [← hM3, jup_eq]
              refine hs1.congr (fun j _ _ => ?_)
              unfold sLS
              rw [eN, jfu_eq]
            · obtain ⟨u1, u2⟩ := hA i i0 (by omega)
              refine ⟨?_, ?_⟩
              · rw [← hM3, jup_ne (by simp), jup_ne (by simp [y]), eN, jfu_ne y]; exact u1
              · rw [← hM3, jup_ne (by simp [y]), jup_ne (by simp)]
                refine u2.congr (fun j _ _ => ?_)
                unfold sLS
                rw [eN, jfu_ne y]
        refine ⟨b7, b7, fun q => ⟨b7, fin _ ((isM_bit (by omega) (by omega)).congr (fun j _ _ => ⟨fun x => ⟨x.symm, by omega⟩, fun x => x.1.symm⟩))⟩, fun q => fin 0 (isM_0.congr (fun j _ _ => ⟨fun x => x.elim, fun x => by omega⟩))⟩
      -- with the order of moments, or without
      have hm1 := (g1.and hv.not).congr (P' := fun j => RA C a b lv wg p (sLS (ansF C a b lv wg tm p n)) (fun _ => False) n j ∧ ∀ k, 0 ≤ k → k < (n : Int) → ¬ ansF C a b lv wg tm p n k = j) (fun j j0 j1 => ⟨fun x => ⟨x.1, fun k k0 k1 y => x.2 ⟨j0, k, k0, k1, y⟩⟩, fun x => ⟨x.1, fun y => by obtain ⟨-, k, k0, k1, z⟩ := y; exact x.2 k k0 k1 z⟩⟩)
      refine ⟨fun q => main _ (hm1.congr (fun j j0 j1 => ⟨fun x => ⟨x.1, x.2, fun htm => ?_⟩, fun x => ⟨x.1, x.2.1⟩⟩)), fun q => ?_⟩
      · exact goes_free htm ((jBl_eq hT1.2.2.1).mp q) ⟨by omega, hnlt⟩ ⟨j0, x.1.1.2.1⟩ (fun k => (bd k).2) x.2
      · refine jcq (c_inStep (C := C) (A := ansF C a b lv wg tm p n) ha hb hNa hNb hOa hOb fa fb hT1 ⟨by omega, hnlt⟩ (fun k k0 k1 => ⟨(hA k k0 k1).1, bd k⟩) hm1 (fun j hj => hj.1.1.2.1)) (by decide) ?_
        rintro r2 M3 ⟨g2, rfl⟩
        refine main _ (g2.congr (fun j _ _ => ⟨fun x => ⟨x.1.1, x.1.2, fun _ => x.2⟩, fun x => ⟨⟨x.1, x.2.1⟩, x.2.2 ((jBl_ne hT1.2.2.1).mp q).1⟩⟩))
  exact key (C a 0 1).toNat 0 (by omega) M 0 (isM_0.congr (fun j _ _ => ⟨fun x => x.elim, fun x => by obtain ⟨-, k, k0, k1, -⟩ := x; omega⟩)) (fun i i0 i1 => by omega) (fun _ _ _ => rfl)
