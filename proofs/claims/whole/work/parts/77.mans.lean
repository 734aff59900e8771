/-! the reference: which ties answer -/
/-- two tales that are compared -/
def gd (C : jM) (a b : Int) : Prop := jLV C ∧ jGood C a ∧ jGood C b ∧ (0 ≤ a ∧ a < 14) ∧ (0 ≤ b ∧ b < 14)
def mR (C M : jM) (a b : Int) : Prop := rL C M ∧ rT C M a ∧ rT C M b
/-- a row of digits -/
def rw1 (C : jM) (a b : Int) (R : Int → Int) : Prop := ∀ x, R x = -1 ∨ (0 ≤ x ∧ x < C a 0 0 ∧ 0 ≤ R x ∧ R x < C b 0 0)
def mRow (C M : jM) (a : Int) (R : Int → Int) : Prop := ∀ x, 0 ≤ x → x < C a 0 0 → M 28 11 x = nd (R x)
def mAns (C M : jM) (b : Int) (A : Int → Int) (n : Int) : Prop := ∀ k, 0 ≤ k → k < n → M 28 12 k = jno (A k) ∧ -1 ≤ A k ∧ A k < C b 0 1
theorem m_endAnswers {C M : jM} {a b n e f : Int} {R A : Int → Int} (hG : gd C a b) (hw : rw1 C a b R) (hR : mRow C M a R) (hA : mAns C M b A n) (hn : n ≤ C a 0 1) (he : 0 ≤ e ∧ (e < 10 → e < C a 0 0) ∧ e < 10 + n) (hf : 0 ≤ f ∧ (f < 10 → f < C b 0 0)) :
    jCallP 0 70 [.inr (28, 0), .inl e, .inl f] M (fun r M' => jBl r (EA C b R (sLS A) (fun _ => False) e f) ∧ M' = M) := by
  obtain ⟨-, hGa, hGb, -⟩ := hG
  have na1 := hGa.1.2.1.1
  have na2 := hGa.1.2.1.2
  have nb1 := hGb.1.2.1.1
  have nb2 := hGb.1.2.1.2
  refine jstart (by decide) rfl (fX10_endAnswers_0 ⟨fun z => ?_, fun z => ?_⟩)
  · obtain ⟨a1, a2, a3⟩ := hA (e - 10) (by omega) (by omega)
    have b12 : 0 ≤ e - 10 ∧ e - 10 < jal 28 12 := by rw [jal_28_12]; omega
    rw [jwr_id (z := e - 10) (by omega) (by omega), a1]
    have no : ¬ (A (e - 10) = f - 10 ∧ 0 ≤ f - 10) → ((0 : Int) = 0 ∨ (0 : Int) = 1) ∧ jBl 0 (EA C b R (sLS A) (fun _ => False) e f) ∧ M = M := fun h => ⟨Or.inl rfl, Or.inr ⟨rfl, fun h2 => by
      unfold EA at h2
      rcases h2 with h2 | h2
      · omega
      · exact h h2.2.2⟩, rfl⟩
    refine ⟨b12, fun z2 => no (fun h => ?_), fun z2 => ⟨b12, ?_⟩⟩
    · have := (jno_lt a2).mp z2; omega
    · have h0 : 0 ≤ A (e - 10) := by
        apply Classical.byContradiction
        intro q
        rw [jno_neg (by omega)] at z2
        exact absurd z2 (by decide)
      rw [jno_ge h0, jwr_id (by omega) (by omega)]
      exact ⟨fun z3 => no (fun h => by omega), fun z3 => ⟨Or.inr rfl, Or.inl ⟨rfl, Or.inr ⟨z, by omega, by omega, by omega⟩⟩, rfl⟩⟩
  · have r1 := hR e he.1 (he.2.1 z)
    have w1 := hw e
    refine ⟨fun z2 => ⟨Or.inl rfl, Or.inr ⟨rfl, fun h => ?_⟩, rfl⟩, fun z2 => ⟨⟨he.1, by rw [jal_28_11]; omega⟩, ?_⟩⟩
    · unfold EA at h
      omega
    · rw [r1]
      have hf2 := hf.2 z2
      have he2 := he.2.1 z
      unfold nd
      refine ⟨fun z3 => ⟨Or.inl rfl, Or.inr ⟨rfl, fun h => ?_⟩, rfl⟩, fun z3 => ⟨Or.inr rfl, Or.inl ⟨rfl, ?_⟩, rfl⟩⟩
      · unfold EA at h
        rcases h with ⟨-, -, h | h⟩ | h
        · omega
        · rw [if_neg (by omega)] at z3; omega
        · omega
      · have : 0 ≤ R e := by
          apply Classical.byContradiction
          intro q
          rw [if_pos (by omega)] at z3
          omega
        rw [if_neg (by omega)] at z3
        exact Or.inl ⟨he.1, by omega, Or.inr ⟨this, z3.symm⟩⟩
def sgn (v : Int) : Int := if v < 0 then -1 else if 0 < v then 1 else 0
theorem m_sign (M : jM) (v : Int) : jCallP 0 71 [.inl v] M (fun r M' => r = sgn v ∧ M' = M) := by
  unfold sgn
  exact jstart (by decide) rfl (fX10_sign_0 ⟨fun z => ⟨fun z2 => ⟨by rw [if_neg (by omega), if_neg (by omega)], rfl⟩, fun z2 => ⟨by rw [if_neg (by omega), if_pos z2], rfl⟩⟩, fun z => ⟨by rw [if_pos z], rfl⟩⟩)
theorem sgn_ord (m p n q : Int) : sgn (m - p) = sgn (n - q) ↔ sOrd p m q n := by
  unfold sgn sOrd
  constructor
  · intro h
    repeat' split at h
    all_goals omega
  · intro h
    repeat' split
    all_goals omega
theorem m_goes {C M : jM} {a b n f : Int} {A : Int → Int} (hG : gd C a b) (hM : mR C M a b) (hA : mAns C M b A n) (hn : 0 ≤ n ∧ n < C a 0 1) (hf : 0 ≤ f ∧ f < C b 0 1) :
    jCallP 1 72 [.inr (28, 0), .inl a, .inl n, .inl b, .inl f] M (fun r M' => jBl r (goes C a b A n f) ∧ M' = M) := by
  obtain ⟨-, hGa, hGb, ha, hb⟩ := hG
  obtain ⟨-, Ta, Tb⟩ := hM
  have na2 := hGa.1.2.1.2
  have nb2 := hGb.1.2.1.2
  have oa := hGa.1.2.2.2
  have ob := hGb.1.2.2.2
  have ma := fun i i0 i1 => (Ta.2.2.2 i i0 i1).2.2.2.2.1
  have mb := fun i i0 i1 => (Tb.2.2.2 i i0 i1).2.2.2.2.1
  have w : ∀ t i, 0 ≤ t → t < 14 → 0 ≤ i → i < 14 → jwr (84 * t + 6 * i + 4) = 84 * t + 6 * i + 4 := fun t i _ _ _ _ => jwr_id (by omega) (by omega)
  have bd : ∀ t i, 0 ≤ t → t < 14 → 0 ≤ i → i < 14 → 0 ≤ 84 * t + 6 * i + 4 ∧ 84 * t + 6 * i + 4 < jal 28 10 := fun t i _ _ _ _ => by rw [jal_28_10]; omega
  have on := oa n hn.1 hn.2
  have of' := ob f hf.1 hf.2
  refine jstart (by decide) rfl (fX10_goes_0 ?_)
  refine jc (m_at M (t := a) (e := n) (by omega) (by omega)) (by decide) ?_
  rw [w a n (by omega) (by omega) (by omega) (by omega), ma n hn.1 hn.2]
  refine ⟨bd a n (by omega) (by omega) (by omega) (by omega), jc (m_at M (t := b) (e := f) (by omega) (by omega)) (by decide) ?_⟩
  rw [w b f (by omega) (by omega) (by omega) (by omega), mb f hf.1 hf.2]
  refine ⟨bd b f (by omega) (by omega) (by omega) (by omega), ?_⟩
  have key : ∀ i, 0 ≤ i → i ≤ n → ∀ v, (v = 0 ∨ v = 1) → (v = 1 ↔ ∀ k, 0 ≤ k → k < i → 0 ≤ A k → ¬ oos C a b n k (A k) f) → jWP 1 72 35 [some (.inr (28, 0)), some (.inl a), some (.inl n), some (.inl b), none, some (.inl (C a 7 n)), some (.inl (C b 7 f)), some (.inl v), some (.inl i), none, none] [] M (fun r M' => jBl r (goes C a b A n f) ∧ M' = M) := by
    refine jloop (e := n) (fun v hv h => ?_) (fun i i0 i1 ih v hv h => ?_)
    · refine fX10_goes_35 ⟨fun _ => ⟨hv, ?_, rfl⟩, fun z => by exfalso; omega⟩
      exact hv.elim (fun e => Or.inr ⟨e, fun q => by have := h.mpr q; omega⟩) (fun e => Or.inl ⟨e, h.mp e⟩)
    · obtain ⟨a1, a2, a3⟩ := hA i i0 i1
      have trivial' : (C a 7 n < 0 ∨ C b 7 f < 0) → (v = 0 ∨ v = 1) ∧ jBl v (goes C a b A n f) ∧ M = M := fun hh => by
        have no : ∀ k, ¬ oos C a b n k (A k) f := fun k q => by
          unfold oos at q
          omega
        exact ⟨hv, Or.inl ⟨h.mpr (fun k _ _ _ => no k), fun k _ _ _ => no k⟩, rfl⟩
      have b12 : 0 ≤ i ∧ i < jal 28 12 := by rw [jal_28_12]; omega
      refine fX10_goes_35 ⟨fun z => by exfalso; omega, fun _ => ⟨fun z => trivial' (Or.inl z), fun z => ⟨fun z2 => trivial' (Or.inr z2), fun z2 => ⟨b12, ?_⟩⟩⟩⟩
      rw [a1, jwr_id (z := i + 1) (by omega) (by omega)]
      have stp : ∀ u, (u = 0 ∨ u = 1) → (u = 1 ↔ (v = 1 ∧ (0 ≤ A i → ¬ oos C a b n i (A i) f))) → jWP 1 72 35 [some (.inr (28, 0)), some (.inl a), some (.inl n), some (.inl b), none, some (.inl (C a 7 n)), some (.inl (C b 7 f)), some (.inl u), some (.inl (i + 1)), none, none] [] M (fun r M' => jBl r (goes C a b A n f) ∧ M' = M) := fun u hu hh => by
        refine ih u hu (hh.trans ?_)
        rw [h]
        constructor
        · rintro ⟨q1, q2⟩ k k0 k1 hk
          by_cases e : k = i
          · rw [e] at hk ⊢; exact q2 hk
          · exact q1 k k0 (by omega) hk
        · intro q
          exact ⟨fun k k0 k1 hk => q k k0 (by omega) hk, fun hk => q i i0 (by omega) hk⟩
      refine ⟨fun z3 => ?_, fun z3 => ?_⟩
      · have : A i = -1 := (jno_lt a2).mp z3
        exact stp v hv ⟨fun e => ⟨e, fun q => by omega⟩, fun e => e.1⟩
      · have h0 : 0 ≤ A i := by
          apply Classical.byContradiction
          intro q
          rw [jno_neg (by omega)] at z3
          exact absurd z3 (by decide)
        have oi := oa i i0 (by omega)
        have oA := ob (A i) h0 a3
        refine jc (m_at M (t := a) (e := i) (by omega) (by omega)) (by decide) ?_
        rw [w a i (by omega) (by omega) (by omega) (by omega), ma i i0 (by omega)]
        refine ⟨bd a i (by omega) (by omega) (by omega) (by omega), b12, ?_⟩
        rw [a1, jno_ge h0]
        refine jc (m_at M (t := b) (e := A i) (by omega) (by omega)) (by decide) ?_
        rw [w b (A i) (by omega) (by omega) (by omega) (by omega), mb (A i) h0 a3]
        refine ⟨bd b (A i) (by omega) (by omega) (by omega) (by omega), fun z4 => stp 0 (Or.inl rfl) ⟨fun e => absurd e (by decide), fun e => by omega⟩, fun z4 => ?_⟩
        have hv1 : v = 1 := by omega
        refine ⟨fun z5 => stp 1 (Or.inr rfl) ⟨fun _ => ⟨hv1, fun _ q => ?_⟩, fun _ => rfl⟩, fun z5 => ⟨fun z6 => stp 1 (Or.inr rfl) ⟨fun _ => ⟨hv1, fun _ q => ?_⟩, fun _ => rfl⟩, fun z6 => ?_⟩⟩
        · unfold oos at q; omega
        · unfold oos at q; omega
        · rw [jwr_id (z := C a 7 n - C a 7 i) (by omega) (by omega), jwr_id (z := C b 7 f - C b 7 (A i)) (by omega) (by omega)]
          refine jc (m_sign M _) (by decide) (jc (m_sign M _) (by decide) ?_)
          rw [sgn_ord]
          refine ⟨fun z7 => stp 0 (Or.inl rfl) ⟨fun e => absurd e (by decide), fun e => ?_⟩, fun z7 => stp 1 (Or.inr rfl) ⟨fun _ => ⟨hv1, fun _ q => q.2.2 z7⟩, fun _ => rfl⟩⟩
          exact absurd ⟨⟨by omega, by omega, by omega⟩, z2, z7⟩ (e.2 h0)
  exact key 0 (by omega) hn.1 1 (Or.inr rfl) ⟨fun _ k k0 k1 => by omega, fun _ => rfl⟩
