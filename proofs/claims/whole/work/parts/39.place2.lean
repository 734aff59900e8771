/-! place: all rows from a number to another -/
noncomputable def aln (p : Int → Int) (k : Nat) : Int := (k : Int) - cP (fun x => 0 ≤ p x) k
def jFr (M M' : jM) : Prop := (∀ x y, ¬ ((x = 20 ∧ (y = 6 ∨ y = 7 ∨ y = 8 ∨ y = 14)) ∨ (x = 21 ∧ (y = 7 ∨ y = 8)) ∨ (x = 22 ∧ (y = 0 ∨ y = 11))) → M' x y = M x y) ∧ (∀ z, ¬ (z = 6 ∨ z = 8 ∨ z = 9 ∨ z = 12) → M' 22 0 z = M 22 0 z) ∧ ((∀ c, 0 ≤ c → c < 100 → M 21 7 c = 0) → ∀ c, 0 ≤ c → c < 100 → M' 21 7 c = 0)
theorem jFr.refl (M : jM) : jFr M M := ⟨fun _ _ _ => rfl, fun _ _ => rfl, fun h => h⟩
theorem jFr.trans {M M1 M2 : jM} (h : jFr M M1) (h' : jFr M1 M2) : jFr M M2 := ⟨fun x y z => by rw [h'.1 x y z, h.1 x y z], fun z hz => by rw [h'.2.1 z hz, h.2.1 z hz], fun z => h'.2.2 (h.2.2 z)⟩
theorem jSe.fr {C M M' : jM} {a b lv tm wg : Int} (ha : 0 ≤ a ∧ a < 18) (hb : 0 ≤ b ∧ b < 18) (h : jSe C M a b lv tm wg) (f : jFr M M') : jSe C M' a b lv tm wg := by
  obtain ⟨⟨r1, r2, r3, hT, hC, hH, h19, hMa, hMb⟩, ⟨s2, s3, s4, s6⟩, hz⟩ := h
  obtain ⟨f1, f2, f3⟩ := f
  have e20 := f1 20 0 (by simp)
  have eA : M' a = C a := by funext y; rw [f1 _ _ (by omega), hMa]
  have eB : M' b = C b := by funext y; rw [f1 _ _ (by omega), hMb]
  refine ⟨⟨by rw [e20, r1], by rw [e20, r2], by rw [e20, r3], ?_, fun i i0 i1 => ?_, fun q e q0 q1 e0 e1 => by rw [f1 20 13 (by simp)]; exact hH q e q0 q1 e0 e1, by funext y; rw [f1 _ _ (by simp), h19], eA, eB⟩, ⟨by rw [f2 _ (by simp), s2], by rw [f2 _ (by simp), s3], by rw [f2 _ (by simp)]; exact s4, fun x x0 x1 => by rw [f1 22 6 (by simp)]; exact s6 x x0 x1⟩, f3 hz⟩
  · unfold jTm at hT ⊢
    rw [f1 21 0 (by simp), f1 21 4 (by simp), f1 21 5 (by simp)]
    exact hT
  · have := hC i i0 i1
    unfold jCmp at this ⊢
    rw [f1 20 9 (by simp), f1 20 10 (by simp), f1 20 11 (by simp), f1 20 12 (by simp)]
    exact this
def jSm (M M' : jM) : Prop := M' 22 0 8 = M 22 0 8 ∧ M' 22 0 9 = M 22 0 9 ∧ M' 22 0 11 = M 22 0 11 ∧ M' 22 0 12 = M 22 0 12 ∧ M' 22 0 13 = M 22 0 13 ∧ M' 22 11 = M 22 11
def jPh (C : jM) (a b lv wg tm sp : Int) (F : jM → Int → Prop) : Prop :=
  (∀ M M' D, jSm M M' → F M D → F M' D) ∧
  (∀ M D D', 0 ≤ D → D ≤ D' → (∀ q, vld C a b q → C a 0 0 - prs C a q ≤ sp → D ≤ num q (C a 0 0).toNat → num q (C a 0 0).toNat < D' → poor C M a b lv wg tm q) → F M D → F M D') ∧
  (∀ M M' q, vld C a b q → C a 0 0 - prs C a q ≤ sp → jArr C M M' a b lv wg tm q → F M (num q (C a 0 0).toNat) → F M' (num q (C a 0 0).toNat + 1)) ∧
  (∀ M D, F M D → ¬ M 22 0 11 = 0 → D ≤ 1000000 → 0 ≤ M 22 0 12 ∧ M 22 0 12 ≤ 2000000)
theorem num_lt {q : Int → Int} (h : ∀ x, q x < 9) (n : Nat) : 0 ≤ num q n ∧ num q n < 10 ^ n := by
  have := num_bd h 0 n
  rw [Nat.zero_add, show num q 0 = 0 from rfl, Int.zero_mul, Int.zero_add, Int.one_mul] at this
  exact this
theorem aln_more {C : jM} {a b : Int} {q p : Int → Int} {k n : Nat} (h : k ≤ n) (hx : ∀ x : Int, 0 ≤ x → x < k → q x = p x) (hn : (n : Int) = C a 0 0) : aln p k ≤ C a 0 0 - prs C a q := by
  have e1 := (cP_more (P := fun x => 0 ≤ q x) (k := k) n h).2
  have e2 : cP (fun x => 0 ≤ q x) k = cP (fun x => 0 ≤ p x) k := cP_congr k (fun x x0 x1 => by rw [hx x x0 x1])
  unfold aln prs
  rw [show (C a 0 0).toNat = n by omega]
  omega
theorem jSm_poor {C M M' : jM} {a b lv wg tm : Int} {q : Int → Int} (h : jSm M M') : poor C M a b lv wg tm q → poor C M' a b lv wg tm q := by
  obtain ⟨h1, h2, h3, h4, h5, -⟩ := h
  unfold poor
  rw [h1, h2, h3, h4, h5]
  exact id
theorem jSm.symm {M M' : jM} (h : jSm M M') : jSm M' M := ⟨h.1.symm, h.2.1.symm, h.2.2.1.symm, h.2.2.2.1.symm, h.2.2.2.2.1.symm, h.2.2.2.2.2.symm⟩
set_option maxHeartbeats 2000000 in
theorem c_place {C : jM} {a b lv tm wg sp : Int} {F : jM → Int → Prop} (hL : jLV C) (hGa : jGood C a) (hGb : jGood C b) (hSa : jSr C a) (hF : jPh C a b lv wg tm sp F) :
    ∀ (j k : Nat) (M : jM) (p : Int → Int), ((k + j : Nat) : Int) = C a 0 0 → jSe C M a b lv tm wg → M 22 0 7 = sp → pre C a b p k → (∀ x : Int, (x < 0 ∨ k ≤ x) → p x = -2) → (∀ x, 0 ≤ x → x < 6 → M 20 6 x = p x) → isM (M 22 0 6) (tkn p k) → aln p k ≤ sp → F M (num p k * 10 ^ j) →
    jCallP (4 + j) 157 [.inr (22, 0), .inl (k : Int), .inl (aln p k)] M (fun _ M' => F M' ((num p k + 1) * 10 ^ j) ∧ jFr M M' ∧ (∀ x, 0 ≤ x → x < 6 → M' 20 6 x = p x) ∧ isM (M' 22 0 6) (tkn p k)) := by
  obtain ⟨⟨ha, hNa, hKa, hOa⟩, hEa, hHa, -, -⟩ := id hGa
  obtain ⟨⟨hb, hNb, hKb, hOb⟩, hEb, hHb, -, -⟩ := id hGb
  have b1 := hNa.1
  have b2 := hNb.1
  obtain ⟨hF1, hF2, hF3, hF4⟩ := hF
  intro j
  induction j with
  | zero =>
    intro k M p hkj hS h7 hp ho hP hT hal hPh
    have hMa : M a = C a := hS.1.2.2.2.2.2.2.2.1
    have s2 := hS.2.1.1
    have hp9 : ∀ x, p x < 9 := fun x => by
      by_cases y : x < 0 ∨ k ≤ x
      · have := ho x y; omega
      · have := hp.1 x (by omega) (by omega); omega
    generalize hq : (fun x => if 0 ≤ x ∧ x < C a 0 0 then p x else -1) = q
    have q1 : ∀ x, 0 ≤ x → x < C a 0 0 → q x = p x := fun x x0 x1 => by rw [← hq]; exact if_pos ⟨x0, x1⟩
    have q2 : ∀ x, ¬ (0 ≤ x ∧ x < C a 0 0) → q x = -1 := fun x h => by rw [← hq]; exact if_neg h
    have hv : vld C a b q := by
      constructor
      · intro x
        by_cases y : 0 ≤ x ∧ x < C a 0 0
        · rw [q1 x y.1 y.2]
          rcases hp.1 x y.1 (by omega) with e | e
          · exact Or.inl e
          · exact Or.inr ⟨y.1, y.2, e⟩
        · exact Or.inl (q2 x y)
      · intro x y hx he
        have i1 : 0 ≤ x ∧ x < C a 0 0 := by
          by_cases y : 0 ≤ x ∧ x < C a 0 0
          · exact y
          · have := q2 x y; omega
        have i2 : 0 ≤ y ∧ y < C a 0 0 := by
          by_cases z : 0 ≤ y ∧ y < C a 0 0
          · exact z
          · have := q2 y z; omega
        rw [q1 x i1.1 i1.2] at hx he
        rw [q1 y i2.1 i2.2] at he
        exact hp.2 x y i1.1 (by omega) i2.1 (by omega) hx he
    have en : num q (C a 0 0).toNat = num p k := by
      rw [show (C a 0 0).toNat = k by omega]
      exact num_congr k (fun x x0 x1 => q1 x x0 (by omega))
    rw [Int.pow_zero, Int.mul_one, ← en] at hPh
    rw [Int.pow_zero, Int.mul_one, ← en]
    have hlt : num q (C a 0 0).toNat ≤ 1000000 := by
      have h1 := (num_lt hp9 k).2
      have h2 : (10 : Int) ^ k ≤ 10 ^ 6 := by
        have hk6 : k ≤ 6 := by omega
        rcases k with - | - | - | - | - | - | - | k
        all_goals first | omega | decide
      omega
    refine jstart (by decide) rfl (fX5_place_0 ?_)
    rw [s2, hMa]
    refine ⟨ha, fun _ => ?_, fun z => by exfalso; omega⟩
    refine jcq (c_arrive (q := q) hGa hGb hSa hS hv (fun x x0 x1 => by rw [hP x x0 (by omega), q1 x x0 x1]) (hT.congr (fun y _ _ => ⟨fun z => ?_, fun z => ?_⟩)) (fun z => hF4 M _ hPh z hlt)) (by decide) ?_
    · obtain ⟨z0, x, x0, x1, e⟩ := z
      exact ⟨z0, x, x0, by omega, by rw [q1 x x0 (by omega)]; exact e⟩
    · obtain ⟨z0, x, x0, x1, e⟩ := z
      rw [q1 x x0 (by omega)] at e
      exact ⟨z0, x, x0, by omega, e⟩
    · rintro r M' ⟨g1, g2⟩
      refine ⟨hF3 M M' q hv (by
        have : aln p k = C a 0 0 - prs C a q := by
          unfold aln prs
          rw [show (C a 0 0).toNat = k by omega, cP_congr (U := fun x => 0 ≤ q x) (U' := fun x => 0 ≤ p x) k (fun x x0 x1 => by rw [q1 x x0 (by omega)])]
          omega
        omega) g1 hPh, ⟨fun x y h => g2 x y (fun z => h (by omega)), fun z hz' => g1.1 z (fun w => hz' (by omega)), fun w => by rw [g2 21 7 (by simp)]; exact w⟩, fun x x0 x1 => by rw [g2 20 6 (by simp)]; exact hP x x0 x1, ?_⟩
      rw [g1.1 6 (by simp)]
      exact hT
  | succ j ih =>
    intro k M p hkj hS h7 hp ho hP hT hal hPh
    have hp9 : ∀ x, p x < 9 := fun x => by
      by_cases y : x < 0 ∨ k ≤ x
      · have := ho x y; omega
      · have := hp.1 x (by omega) (by omega); omega
    have hp1 : ∀ x : Int, 0 ≤ x → x < k → -1 ≤ p x := fun x x0 x1 => by have := hp.1 x x0 x1; omega
    have hkl : (k : Int) < C a 0 0 := by omega
    have hP0 : (0 : Int) ≤ 10 ^ j := Int.le_of_lt (Int.pow_pos (by omega))
    have eN : (C a 0 0).toNat = k + 1 + j := by omega
    have nn := (num_lt hp9 k).1
    have e10 : ∀ v : Int, v * 10 ^ (j + 1) = (10 * v) * 10 ^ j := fun v => by rw [Int.pow_succ, ← Int.mul_assoc, Int.mul_comm (v * 10 ^ j) 10, ← Int.mul_assoc]
    have mon : ∀ v w : Int, v ≤ w → v * 10 ^ j ≤ w * 10 ^ j := fun v w h => Int.mul_le_mul_of_nonneg_right h hP0
    have non : ∀ v : Int, 0 ≤ v → 0 ≤ v * 10 ^ j := fun v h => Int.mul_nonneg h hP0
    have al0 := cP_bd (fun x => 0 ≤ p x) k
    -- a next number
    have prs1 : ∀ v : Int, v = -1 ∨ (0 ≤ v ∧ v < C b 0 0 ∧ ¬ tkn p k v) → pre C a b (jfu p k v) ((k + 1 : Nat) : Int) ∧ (∀ x : Int, (x < 0 ∨ ((k + 1 : Nat) : Int) ≤ x) → jfu p k v x = -2) ∧ num (jfu p k v) (k + 1) = 10 * num p k + cod9 v ∧ aln (jfu p k v) (k + 1) = aln p k + (if 0 ≤ v then 0 else 1) := fun v hv => by
      have o : ∀ x : Int, ¬ x = k → jfu p k v x = p x := fun x h => jfu_ne h
      refine ⟨⟨fun x x0 x1 => ?_, fun x y x0 x1 y0 y1 h e => ?_⟩, fun x h => ?_, ?_, ?_⟩
      · by_cases y : x = k
        · rw [y, jfu_eq]; omega
        · rw [o x y]; exact hp.1 x x0 (by omega)
      · by_cases u1 : x = k
        · by_cases u2 : y = k
          · omega
          · rw [u1, jfu_eq] at h e
            rw [o y u2] at e
            exact absurd ⟨h, y, y0, by omega, e.symm⟩ ((hv.resolve_left (by omega)).2.2)
        · rw [o x u1] at h e
          by_cases u2 : y = k
          · rw [u2, jfu_eq] at e
            exact absurd ⟨by omega, x, x0, by omega, e⟩ ((hv.resolve_left (by omega)).2.2)
          · rw [o y u2] at e
            exact hp.2 x y x0 (by omega) y0 (by omega) h e
      · rw [o x (by omega)]
        exact ho x (by omega)
      · show 10 * num (jfu p k v) k + cod9 (jfu p k v k) = _
        rw [jfu_eq, num_congr (q := jfu p k v) (q' := p) k (fun x x0 x1 => o x (by omega))]
      · unfold aln
        have e1 : cP (fun x => 0 ≤ jfu p k v x) k = cP (fun x => 0 ≤ p x) k := cP_congr k (fun x x0 x1 => by rw [o x (by omega)])
        by_cases y : 0 ≤ v
        · rw [if_pos y, cP_yes (P := fun x => 0 ≤ jfu p k v x) (by rw [jfu_eq]; exact y), e1]; omega
        · rw [if_neg y, cP_no (P := fun x => 0 ≤ jfu p k v x) (by rw [jfu_eq]; exact y), e1]; omega
    generalize hQ : (fun (_ : Int) (M' : jM) => F M' ((num p k + 1) * 10 ^ (j + 1)) ∧ jFr M M' ∧ (∀ x, 0 ≤ x → x < 6 → M' 20 6 x = p x) ∧ isM (M' 22 0 6) (tkn p k)) = Q
    have loop : ∀ (i y : Nat), ((y + i : Nat) : Int) = C b 0 0 → ∀ M1 : jM, F M1 ((10 * num p k + y) * 10 ^ j) → jFr M M1 → (∀ x : Int, 0 ≤ x → x < 6 → ¬ x = k → M1 20 6 x = p x) → isM (M1 22 0 6) (tkn p k) → jWP (4 + (j + 1)) 157 24 [some (.inr (22, 0)), some (.inl (k : Int)), some (.inl (aln p k)), some (.inl (y : Int))] [] M1 Q := by
      intro i
      induction i with
      | zero =>
        intro y hy M1 hF' hfr hP1 hT1
        have hS1 := hS.fr ha hb hfr
        have s3 := hS1.2.1.2.1
        have hMb1 : M1 b = C b := hS1.1.2.2.2.2.2.2.2.2
        have e7 : M1 22 0 7 = sp := by rw [hfr.2.1 7 (by simp), h7]
        obtain ⟨v1, v2, v3, v4⟩ := prs1 (-1) (Or.inl rfl)
        generalize hM2 : jup M1 20 6 (k : Int) (-1) = M2
        have f2 : ∀ x y, ¬ (x = 20 ∧ y = 6) → M2 x y = M1 x y := fun x y h => by rw [← hM2, jup_set, jset_ne h]
        have sm2 : jSm M1 M2 := ⟨by rw [f2 _ _ (by simp)], by rw [f2 _ _ (by simp)], by rw [f2 _ _ (by simp)], by rw [f2 _ _ (by simp)], by rw [f2 _ _ (by simp)], f2 _ _ (by simp)⟩
        have fr2 : jFr M1 M2 := ⟨fun x y h => f2 x y (fun z => h (by omega)), fun z _ => by rw [f2 22 0 (by simp)], fun w => by rw [f2 21 7 (by simp)]; exact w⟩
        have hS2 := hS1.fr ha hb fr2
        have bk : (0 : Int) ≤ k ∧ (k : Int) < jal 20 6 := by rw [jal_20_6]; omega
        have P2 : ∀ x, 0 ≤ x → x < 6 → M2 20 6 x = jfu p k (-1) x := fun x x0 x1 => by
          rw [← hM2]
          by_cases u : x = k
          · rw [u, jup_eq, jfu_eq]
          · rw [jup_ne (by simp [u]), jfu_ne u, hP1 x x0 x1 u]
        have T2 : isM (M2 22 0 6) (tkn (jfu p k (-1)) ((k + 1 : Nat) : Int)) := by
          rw [f2 22 0 (by simp)]
          refine hT1.congr (fun y _ _ => ⟨fun z => ?_, fun z => ?_⟩)
          · obtain ⟨z0, x, x0, x1, e⟩ := z
            exact ⟨z0, x, x0, by omega, by rw [jfu_ne (by omega)]; exact e⟩
          · obtain ⟨z0, x, x0, x1, e⟩ := z
            by_cases u : x = k
            · rw [u, jfu_eq] at e; omega
            · rw [jfu_ne u] at e
              exact ⟨z0, x, x0, by omega, e⟩
        -- put back
        have fin : ∀ M3 : jM, F M3 ((num p k + 1) * 10 ^ (j + 1)) → jFr M1 M3 → (∀ x, 0 ≤ x → x < 6 → M3 20 6 x = jfu p k (-1) x) → isM (M3 22 0 6) (tkn (jfu p k (-1)) ((k + 1 : Nat) : Int)) → Q 0 (jup M3 20 6 (k : Int) (-2)) := fun M3 g1 g2 g3 g4 => by
          rw [← hQ]
          have f3 : ∀ x y, ¬ (x = 20 ∧ y = 6) → (jup M3 20 6 (k : Int) (-2)) x y = M3 x y := fun x y h => by rw [jup_set, jset_ne h]
          refine ⟨hF1 M3 _ _ ⟨by rw [f3 _ _ (by simp)], by rw [f3 _ _ (by simp)], by rw [f3 _ _ (by simp)], by rw [f3 _ _ (by simp)], by rw [f3 _ _ (by simp)], f3 _ _ (by simp)⟩ g1, hfr.trans (g2.trans ⟨fun x y h => f3 x y (fun z => h (by omega)), fun z _ => by rw [f3 22 0 (by simp)], fun w => by rw [f3 21 7 (by simp)]; exact w⟩), fun x x0 x1 => ?_, ?_⟩
          · by_cases u : x = k
            · rw [u, jup_eq, ho k (by omega)]
            · rw [jup_ne (by simp [u]), g3 x x0 x1, jfu_ne u]
          · rw [f3 22 0 (by simp)]
            have : M3 22 0 6 = M1 22 0 6 := by
              rw [← f2 22 0 (by simp)]
              exact g4.unique T2
            rw [this]
            exact hT1
        have d9 : (10 * num p k + y) * 10 ^ j ≤ (num p k + 1) * 10 ^ (j + 1) := by rw [e10]; exact mon _ _ (by omega)
        refine fX5_place_24 ?_
        rw [s3, hMb1, hM2]
        refine ⟨hb, fun _ => ⟨bk, fun z => ⟨bk, ?_⟩, fun z => ?_⟩, fun z => by exfalso; omega⟩
        · -- no more may be alone
          refine fin M2 (hF1 M1 M2 _ sm2 (hF2 M1 _ _ (non _ (by omega)) d9 (fun q hv hq n0 n1 => ?_) hF')) fr2 P2 T2
          exfalso
          rw [f2 22 0 (by simp), e7] at z
          rw [eN] at n0 n1
          rw [e10] at n1
          obtain ⟨d1, d2, d3⟩ := digit_in (lo := y) (hi := 10) b2.2 hv hp9 hp1 (by omega) (by omega) n0 (by rw [show 10 * num p k + 10 = 10 * (num p k + 1) by omega]; exact n1)
          have qk : q k = -1 := by
            rcases hv.1 k with e | ⟨-, -, e1, e2⟩
            · exact e
            · unfold cod9 at d2
              rw [if_neg (by omega)] at d2
              omega
          have := aln_more (C := C) (a := a) (b := b) (q := q) (p := jfu p k (-1)) (k := k + 1) (n := k + 1 + j) (by omega) (fun x x0 x1 => by
            by_cases u : x = k
            · rw [u, jfu_eq, qk]
            · rw [jfu_ne u, d1 x x0 (by omega)]) (by omega)
          rw [v4, if_neg (by omega)] at this
          omega
        · rw [jwr_id (z := (k : Int) + 1) (by omega) (by omega)]
          refine jcq (c_isHopeful (p := jfu p k (-1)) (k := ((k + 1 : Nat) : Int)) hL hGa hGb hSa hS2 ⟨by omega, by omega⟩ v1 (fun x h => v2 x (Or.inr h)) P2 T2) (by omega) ?_
          rintro r M3 ⟨w1, w2, w3⟩
          have f22 : ∀ y, M3 22 y = M2 22 y := fun y => w3 22 y (by simp)
          have sm3 : jSm M2 M3 := ⟨by rw [f22], by rw [f22], by rw [f22], by rw [f22], by rw [f22], f22 _⟩
          have fr3 : jFr M2 M3 := ⟨fun x y h => w3 x y (fun z => h (by omega)), fun z _ => by rw [f22], fun _ => w2⟩
          have P3 : ∀ x, 0 ≤ x → x < 6 → M3 20 6 x = jfu p k (-1) x := fun x x0 x1 => by rw [w3 20 6 (by simp)]; exact P2 x x0 x1
          have T3 : isM (M3 22 0 6) (tkn (jfu p k (-1)) ((k + 1 : Nat) : Int)) := by rw [f22]; exact T2
          refine ⟨fun z2 => ⟨bk, fin M3 (hF1 M2 M3 _ sm3 (hF1 M1 M2 _ sm2 (hF2 M1 _ _ (non _ (by omega)) d9 (fun q hv hq n0 n1 => ?_) hF'))) (fr2.trans fr3) P3 T3⟩, fun z2 => ?_⟩
          · rw [eN] at n0 n1
            rw [e10] at n1
            obtain ⟨d1, d2, d3⟩ := digit_in (lo := y) (hi := 10) b2.2 hv hp9 hp1 (by omega) (by omega) n0 (by rw [show 10 * num p k + 10 = 10 * (num p k + 1) by omega]; exact n1)
            have qk : q k = -1 := by
              rcases hv.1 k with e | ⟨-, -, e1, e2⟩
              · exact e
              · unfold cod9 at d2
                rw [if_neg (by omega)] at d2
                omega
            exact jSm_poor sm2.symm (w1 z2 q hv (fun x x0 x1 => by
              by_cases u : x = k
              · rw [u, jfu_eq, qk]
              · rw [jfu_ne u, d1 x x0 (by omega)]))
          · rw [jwr_id (z := aln p k + 1) (by unfold aln; omega) (by unfold aln; omega)]
            have ev : aln p k + 1 = aln (jfu p k (-1)) (k + 1) := by rw [v4, if_neg (by omega)]
            have e7' : M3 22 0 7 = sp := by rw [f22, f2 22 0 (by simp), e7]
            have nf : num (jfu p k (-1)) (k + 1) = 10 * num p k + 9 := v3
            rw [ev]
            refine jcq (ih (k + 1) M3 (jfu p k (-1)) (by omega) (hS2.fr ha hb fr3) e7' v1 v2 P3 T3 (by rw [← ev]; rw [f2 22 0 (by simp), e7] at z; omega) ?_) (by omega) ?_
            · rw [nf]
              refine hF1 M2 M3 _ sm3 (hF1 M1 M2 _ sm2 (hF2 M1 _ _ (non _ (by omega)) (mon _ _ (by omega)) (fun q hv hq n0 n1 => ?_) hF'))
              exfalso
              rw [eN] at n0 n1
              obtain ⟨d1, d2, d3⟩ := digit_in (lo := y) (hi := 9) b2.2 hv hp9 hp1 (by omega) (by omega) n0 n1
              unfold cod9 at d2 d3
              rcases hv.1 k with e | ⟨-, -, e1, e2⟩
              · rw [e] at d3; simp at d3
              · rw [if_neg (by omega)] at d2
                omega
            · rintro r4 M4 ⟨x1, x2, x3, x4⟩
              refine ⟨bk, fin M4 ?_ (fr2.trans (fr3.trans x2)) x3 x4⟩
              rw [nf, show 10 * num p k + 9 + 1 = 10 * (num p k + 1) by omega, ← e10] at x1
              exact x1
      | succ i ihi =>
        intro y hy M1 hF' hfr hP1 hT1
        have hS1 := hS.fr ha hb hfr
        have s3 := hS1.2.1.2.1
        have hMb1 : M1 b = C b := hS1.1.2.2.2.2.2.2.2.2
        have e7 : M1 22 0 7 = sp := by rw [hfr.2.1 7 (by simp), h7]
        have bk : (0 : Int) ≤ k ∧ (k : Int) < jal 20 6 := by rw [jal_20_6]; omega
        have ey : (y : Int) + 1 = ((y + 1 : Nat) : Int) := by omega
        have d9 : (10 * num p k + y) * 10 ^ j ≤ (10 * num p k + (y + 1 : Nat)) * 10 ^ j := mon _ _ (by omega)
        have rowy : ∀ q, vld C a b q → (10 * num p k + y) * 10 ^ j ≤ num q (C a 0 0).toNat → num q (C a 0 0).toNat < (10 * num p k + (y + 1 : Nat)) * 10 ^ j → (∀ x : Int, 0 ≤ x → x < k → q x = p x) ∧ q k = y := fun q hv n0 n1 => by
          rw [eN] at n0 n1
          obtain ⟨d1, d2, d3⟩ := digit_in (lo := y) (hi := (y + 1 : Nat)) b2.2 hv hp9 hp1 (by omega) (by omega) n0 n1
          refine ⟨d1, ?_⟩
          unfold cod9 at d2 d3
          rcases hv.1 k with e | ⟨-, -, e1, e2⟩
          · rw [e] at d3; simp at d3; omega
          · rw [if_neg (by omega)] at d2 d3
            omega
        refine fX5_place_24 ?_
        rw [s3, hMb1]
        refine ⟨hb, fun z => by exfalso; omega, fun _ => ⟨fun z => ?_, fun z => ⟨bk, ?_⟩⟩⟩
        · -- taken
          have ht : tkn p k y := by
            by_cases u : tkn p k y
            · exact u
            · exact absurd ((hT1.test (by omega) (by omega)).mpr u) z
          rw [jwr_id (by omega) (by omega), ey]
          refine ihi (y + 1) (by omega) M1 (hF2 M1 _ _ (non _ (by omega)) d9 (fun q hv hq n0 n1 => ?_) hF') hfr hP1 hT1
          exfalso
          obtain ⟨d1, d2⟩ := rowy q hv n0 n1
          obtain ⟨-, x, x0, x1, e⟩ := ht
          have := hv.2 k x (by omega) (by rw [d2, d1 x x0 x1, e])
          omega
        · have ht : ¬ tkn p k y := (hT1.test (by omega) (by omega)).mp z
          obtain ⟨v1, v2, v3, v4⟩ := prs1 y (Or.inr ⟨by omega, by omega, ht⟩)
          have c9 : cod9 (y : Int) = y := by unfold cod9; rw [if_neg (by omega)]
          rw [c9] at v3
          rw [if_pos (by omega), Int.add_zero] at v4
          generalize hM2' : jup M1 20 6 (k : Int) (y : Int) = M2'
          generalize hM2 : jup M2' 22 0 6 (jior (M2' 22 0 6) (jishl 1 (y : Int))) = M2
          have f2' : ∀ x y, ¬ (x = 20 ∧ y = 6) → M2' x y = M1 x y := fun x y h => by rw [← hM2', jup_set, jset_ne h]
          have f2 : ∀ x y, ¬ (x = 20 ∧ y = 6) → ¬ (x = 22 ∧ y = 0) → M2 x y = M1 x y := fun x y h h' => by rw [← hM2, jup_set, jset_ne h', f2' x y h]
          have f22 : ∀ z, ¬ z = 6 → M2 22 0 z = M1 22 0 z := fun z h => by rw [← hM2, jup_ne (by simp [h]), f2' 22 0 (by simp)]
          have sm2 : jSm M1 M2 := ⟨f22 _ (by simp), f22 _ (by simp), f22 _ (by simp), f22 _ (by simp), f22 _ (by simp), f2 _ _ (by simp) (by simp)⟩
          have fr2 : jFr M1 M2 := ⟨fun x y h => f2 x y (fun z => h (by omega)) (fun z => h (by omega)), fun z hz' => f22 z (by omega), fun w => by rw [f2 21 7 (by simp) (by simp)]; exact w⟩
          have hS2 := hS1.fr ha hb fr2
          have P2 : ∀ x, 0 ≤ x → x < 6 → M2 20 6 x = jfu p k y x := fun x x0 x1 => by
            rw [← hM2, jup_ne (by simp), ← hM2']
            by_cases u : x = k
            · rw [u, jup_eq, jfu_eq]
            · rw [jup_ne (by simp [u]), jfu_ne u, hP1 x x0 x1 u]
          have tk2 : ∀ t, (tkn p k t ∨ t = y) ↔ tkn (jfu p k y) ((k + 1 : Nat) : Int) t := fun t => by
            constructor
            · rintro (⟨z0, x, x0, x1, e⟩ | z)
              · exact ⟨z0, x, x0, by omega, by rw [jfu_ne (by omega)]; exact e⟩
              · exact ⟨by omega, k, by omega, by omega, by rw [jfu_eq]; exact z.symm⟩
            · rintro ⟨z0, x, x0, x1, e⟩
              by_cases u : x = k
              · rw [u, jfu_eq] at e; exact Or.inr e.symm
              · rw [jfu_ne u] at e
                exact Or.inl ⟨z0, x, x0, by omega, e⟩
          have T2 : isM (M2 22 0 6) (tkn (jfu p k y) ((k + 1 : Nat) : Int)) := by
            rw [← hM2, jup_eq, f2' 22 0 (by simp)]
            exact (hT1.or (isM_bit (by omega) (by omega))).congr (fun t _ _ => tk2 t)
          -- go on behind
          have fin : ∀ M3 : jM, F M3 ((10 * num p k + (y + 1 : Nat)) * 10 ^ j) → jFr M1 M3 → (∀ x, 0 ≤ x → x < 6 → M3 20 6 x = jfu p k y x) → isM (M3 22 0 6) (tkn (jfu p k y) ((k + 1 : Nat) : Int)) → jWP (4 + (j + 1)) 157 83 [some (.inr (22, 0)), some (.inl (k : Int)), some (.inl (aln p k)), some (.inl (y : Int))] [] M3 Q := fun M3 g1 g2 g3 g4 => by
            refine fX5_place_83 ?_
            rw [jwr_id (z := (y : Int) + 1) (by omega) (by omega), ey]
            generalize hM4 : jup M3 22 0 6 (jiand (M3 22 0 6) (jixor (jishl 1 (y : Int)) (-1))) = M4
            have f4 : ∀ x y, ¬ (x = 22 ∧ y = 0) → M4 x y = M3 x y := fun x y h => by rw [← hM4, jup_set, jset_ne h]
            have f42 : ∀ z, ¬ z = 6 → M4 22 0 z = M3 22 0 z := fun z h => by rw [← hM4, jup_ne (by simp [h])]
            refine ihi (y + 1) (by omega) M4 (hF1 M3 M4 _ ⟨f42 _ (by simp), f42 _ (by simp), f42 _ (by simp), f42 _ (by simp), f42 _ (by simp), f4 _ _ (by simp)⟩ g1) (hfr.trans (g2.trans ⟨fun x y h => f4 x y (fun z => h (by omega)), fun z hz' => f42 z (by omega), fun w => by rw [f4 21 7 (by simp)]; exact w⟩)) (fun x x0 x1 u => by rw [f4 20 6 (by simp), g3 x x0 x1, jfu_ne u]) ?_
            rw [← hM4, jup_eq]
            refine (g4.and (isM_bit (k := (y : Int)) (by omega) (by omega)).not).congr (fun t _ _ => ?_)
            rw [← tk2]
            constructor
            · rintro ⟨u | u, u2⟩
              · exact u
              · exact absurd u u2
            · intro u
              exact ⟨Or.inl u, fun u2 => ht (by rw [← u2]; exact u)⟩
          rw [jwr_id (z := (k : Int) + 1) (by omega) (by omega)]
          refine jcq (c_isHopeful (p := jfu p k y) (k := ((k + 1 : Nat) : Int)) hL hGa hGb hSa hS2 ⟨by omega, by omega⟩ v1 (fun x h => v2 x (Or.inr h)) P2 T2) (by omega) ?_
          rintro r M3 ⟨w1, w2, w3⟩
          have f22' : ∀ y, M3 22 y = M2 22 y := fun y => w3 22 y (by simp)
          have sm3 : jSm M2 M3 := ⟨by rw [f22'], by rw [f22'], by rw [f22'], by rw [f22'], by rw [f22'], f22' _⟩
          have fr3 : jFr M2 M3 := ⟨fun x y h => w3 x y (fun z => h (by omega)), fun z _ => by rw [f22'], fun _ => w2⟩
          have P3 : ∀ x, 0 ≤ x → x < 6 → M3 20 6 x = jfu p k y x := fun x x0 x1 => by rw [w3 20 6 (by simp)]; exact P2 x x0 x1
          have T3 : isM (M3 22 0 6) (tkn (jfu p k y) ((k + 1 : Nat) : Int)) := by rw [f22']; exact T2
          refine ⟨fun z2 => fin M3 (hF1 M2 M3 _ sm3 (hF1 M1 M2 _ sm2 (hF2 M1 _ _ (non _ (by omega)) d9 (fun q hv hq n0 n1 => ?_) hF'))) (fr2.trans fr3) P3 T3, fun z2 => ?_⟩
          · obtain ⟨d1, d2⟩ := rowy q hv n0 n1
            exact jSm_poor sm2.symm (w1 z2 q hv (fun x x0 x1 => by
              by_cases u : x = k
              · rw [u, jfu_eq, d2]
              · rw [jfu_ne u, d1 x x0 (by omega)]))
          · have e7' : M3 22 0 7 = sp := by rw [f22', f22 7 (by simp), e7]
            rw [← v4]
            refine jcq (ih (k + 1) M3 (jfu p k y) (by omega) (hS2.fr ha hb fr3) e7' v1 v2 P3 T3 (by rw [v4]; exact hal) ?_) (by omega) ?_
            · rw [v3]
              exact hF1 M2 M3 _ sm3 (hF1 M1 M2 _ sm2 hF')
            · rintro r4 M4 ⟨x1, x2, x3, x4⟩
              rw [v4]
              refine fin M4 ?_ (fr2.trans (fr3.trans x2)) x3 x4
              rw [v3] at x1
              rw [show (10 * num p k + ((y + 1 : Nat) : Int)) = 10 * num p k + y + 1 by omega]
              exact x1
    have hMa : M a = C a := hS.1.2.2.2.2.2.2.2.1
    have s2 := hS.2.1.1
    refine jstart (by decide) rfl (fX5_place_0 ?_)
    rw [s2, hMa]
    refine ⟨ha, fun z => by exfalso; omega, fun _ => ⟨fun _ => ?_, fun z => by exfalso; omega⟩⟩
    refine loop (C b 0 0).toNat 0 (by omega) M ?_ (jFr.refl M) (fun x x0 x1 _ => hP x x0 x1) hT
    rw [e10] at hPh
    rw [show (10 * num p k + ((0 : Nat) : Int)) = 10 * num p k by omega]
    exact hPh
