/-! gather and what is asked of a guess (written by gs2.py: once for 24, once for 25) -/
noncomputable def gS (C : jM) (p A : Int → Int) : Nat → Int × (Int → Int)
  | 0 => (0, fun _ => -1)
  | n + 1 => @ite _ (A n = -1 ∧ isG C p A (gS C p A n).2 n) (Classical.propDecidable _) ((gS C p A n).1 + 1, jfu (gS C p A n).2 n (gS C p A n).1) (gS C p A n)
theorem gS_yes {C : jM} {p A : Int → Int} {n : Nat} (h : A n = -1 ∧ isG C p A (gS C p A n).2 n) : gS C p A (n + 1) = ((gS C p A n).1 + 1, jfu (gS C p A n).2 n (gS C p A n).1) := if_pos h
theorem gS_no {C : jM} {p A : Int → Int} {n : Nat} (h : ¬ (A n = -1 ∧ isG C p A (gS C p A n).2 n)) : gS C p A (n + 1) = gS C p A n := if_neg h
theorem gS_bd (C : jM) (p A : Int → Int) : ∀ n : Nat, (0 ≤ (gS C p A n).1 ∧ (gS C p A n).1 ≤ n) ∧ (∀ k : Int, -1 ≤ (gS C p A n).2 k ∧ (gS C p A n).2 k < (gS C p A n).1) ∧ (∀ k : Int, (k < 0 ∨ (n : Int) ≤ k) → (gS C p A n).2 k = -1) ∧ (∀ c : Int, 0 ≤ c → c < (gS C p A n).1 → ∃ i : Int, 0 ≤ i ∧ i < n ∧ (gS C p A n).2 i = c) ∧ (∀ i k : Int, 0 ≤ (gS C p A n).2 i → (gS C p A n).2 i = (gS C p A n).2 k → i = k)
  | 0 => by
    have z : (gS C p A 0).1 = 0 := rfl
    have f : ∀ k, (gS C p A 0).2 k = -1 := fun k => rfl
    refine ⟨by omega, fun k => by rw [f k]; omega, fun k _ => f k, fun c c0 c1 => by omega, fun i k h => by rw [f i] at h; omega⟩
  | n + 1 => by
    obtain ⟨h1, h2, h3, h4, h5⟩ := gS_bd C p A n
    by_cases y : A n = -1 ∧ isG C p A (gS C p A n).2 n
    · rw [gS_yes y]
      refine ⟨by dsimp only; omega, fun k => ?_, fun k hk => ?_, fun c c0 c1 => ?_, fun i k hi e => ?_⟩
      · dsimp only
        by_cases u : k = n
        · rw [u, jfu_eq]; omega
        · rw [jfu_ne u]; have := h2 k; omega
      · dsimp only
        rw [jfu_ne (by omega)]
        exact h3 k (by omega)
      · dsimp only at c1 ⊢
        by_cases u : c = (gS C p A n).1
        · exact ⟨n, by omega, by omega, by rw [jfu_eq, u]⟩
        · obtain ⟨i, i0, i1, e⟩ := h4 c c0 (by omega)
          exact ⟨i, i0, by omega, by rw [jfu_ne (by omega)]; exact e⟩
      · dsimp only at hi e
        by_cases u : i = n
        · by_cases v : k = n
          · omega
          · rw [u, jfu_eq, jfu_ne v] at e
            have := h2 k; omega
        · rw [jfu_ne u] at hi e
          by_cases v : k = n
          · rw [v, jfu_eq] at e
            have := h2 i; omega
          · rw [jfu_ne v] at e
            exact h5 i k hi e
    · rw [gS_no y]
      exact ⟨by omega, h2, fun k hk => h3 k (by omega), fun c c0 c1 => by obtain ⟨i, i0, i1, e⟩ := h4 c c0 c1; exact ⟨i, i0, by omega, e⟩, h5⟩
/-- the guesses as they are laid -/
def jGl (C M : jM) (o pg : Int) (p A : Int → Int) : Prop := jGs C M o pg p A (gS C p A (C 12 0 1).toNat).2 (C 12 0 1) ∧ M o 0 3 = (gS C p A (C 12 0 1).toNat).1 ∧ ∀ i, 0 ≤ i → i < C 12 0 1 → 0 ≤ (gS C p A (C 12 0 1).toNat).2 i → M o 5 ((gS C p A (C 12 0 1).toNat).2 i) = i
theorem c_gather_24 {C M : jM} {p A : Int → Int} (hNa : jNB C 12) (hE : jEs C 12) (hS : jGs C M 24 23 p A (fun _ => -1) 0) : jCallP 2 124 [.inr (24, 0)] M (fun _ M' => jGl C M' 24 23 p A ∧ ∀ x y, ¬ (x = 24 ∧ (y = 0 ∨ y = 5 ∨ y = 6)) → M' x y = M x y) := by
  have b1 := hNa.1
  have t1 := hNa.2
  obtain ⟨h12, hp, hA, -⟩ := hS
  refine jstart (by decide) rfl (fX1_gather_24_0 ?_)
  have key : ∀ j n : Nat, ((n + j : Nat) : Int) = C 12 0 1 → ∀ M1 : jM, M1 24 0 3 = (gS C p A n).1 → (∀ i : Int, 0 ≤ i → i < n → M1 24 6 i = (gS C p A n).2 i) → (∀ i : Int, 0 ≤ i → i < n → 0 ≤ (gS C p A n).2 i → M1 24 5 ((gS C p A n).2 i) = i) → (∀ x y, ¬ (x = 24 ∧ (y = 0 ∨ y = 5 ∨ y = 6)) → M1 x y = M x y) → jWP 2 124 7 [some (.inr (24, 0)), some (.inl (n : Int))] [] M1 (fun _ M' => jGl C M' 24 23 p A ∧ ∀ x y, ¬ (x = 24 ∧ (y = 0 ∨ y = 5 ∨ y = 6)) → M' x y = M x y) := by
    intro j
    induction j with
    | zero =>
      intro n hn M1 g1 g2 g3 g4
      have en : (C 12 0 1).toNat = n := by omega
      obtain ⟨k1, k2, k3, k4, k5⟩ := gS_bd C p A n
      refine fX1_gather_24_7 ?_
      rw [g4 12 0 (by simp), h12]
      refine ⟨by omega, fun _ => ⟨⟨⟨by funext y; rw [g4 12 y (by simp), h12], fun x x0 x1 => by rw [g4 23 6 (by simp)]; exact hp x x0 x1, fun i i0 i1 => by rw [g4 23 7 (by simp)]; exact hA i i0 i1, fun i i0 i1 => ?_⟩, by rw [en]; exact g1, fun i i0 i1 h => ?_⟩, g4⟩, fun z => by exfalso; omega⟩
      · rw [en]
        have := k2 i
        exact ⟨g2 i i0 (by omega), by omega, by omega⟩
      · rw [en] at h ⊢
        exact g3 i i0 (by omega) h
    | succ j ih =>
      intro n hn M1 g1 g2 g3 g4
      obtain ⟨k1, k2, k3, k4, k5⟩ := gS_bd C p A n
      have hnl : (n : Int) < C 12 0 1 := by omega
      have en : (n : Int) + 1 = ((n + 1 : Nat) : Int) := by omega
      obtain ⟨a1, a2, a3⟩ := hA n (by omega) hnl
      have bn6 : 0 ≤ (n : Int) ∧ (n : Int) < jal 24 6 := by rw [show jal 24 6 = 14 from rfl]; omega
      have bn7 : 0 ≤ (n : Int) ∧ (n : Int) < jal 23 7 := by rw [show jal 23 7 = 14 from rfl]; omega
      generalize hM2 : jup M1 24 6 (n : Int) (-1) = M2
      have f2 : ∀ x y, ¬ (x = 24 ∧ y = 6) → M2 x y = M1 x y := fun x y h => by rw [← hM2, jup_set, jset_ne h]
      have e6 : ∀ i : Int, 0 ≤ i → i < n → M2 24 6 i = (gS C p A n).2 i := fun i i0 i1 => by rw [← hM2, jup_ne (by omega)]; exact g2 i i0 i1
      have e6n : M2 24 6 n = -1 := by rw [← hM2, jup_eq]
      have skip : ¬ (A n = -1 ∧ isG C p A (gS C p A n).2 n) → jWP 2 124 7 [some (.inr (24, 0)), some (.inl (jwr ((n : Int) + 1)))] [] M2 (fun _ M' => jGl C M' 24 23 p A ∧ ∀ x y, ¬ (x = 24 ∧ (y = 0 ∨ y = 5 ∨ y = 6)) → M' x y = M x y) := fun y => by
        have e := gS_no y
        rw [jwr_id (by omega) (by omega), en]
        refine ih (n + 1) (by omega) M2 (by rw [f2 24 0 (by simp), e, g1]) (fun i i0 i1 => ?_) (fun i i0 i1 h => ?_) (fun x y h => by rw [f2 x y (by omega), g4 x y h])
        · rw [e]
          by_cases u : i = n
          · rw [u, e6n, k3 n (by omega)]
          · exact e6 i i0 (by omega)
        · rw [e] at h ⊢
          rw [f2 24 5 (by simp)]
          refine g3 i i0 ?_ h
          apply Classical.byContradiction
          intro u
          rw [k3 i (by omega)] at h
          omega
      refine fX1_gather_24_7 ?_
      rw [hM2, g4 12 0 (by simp), h12, f2 23 7 (by simp), g4 23 7 (by simp), a1]
      refine ⟨by omega, fun z => by exfalso; omega, fun _ => ⟨bn6, bn7, fun z => skip (fun y => z y.1), fun z => ?_⟩⟩
      refine jcq (c_isGuess_24 (C := C) (p := p) (A := A) (G := (gS C p A n).2) (i := n) hNa hE ⟨by funext y; rw [f2 12 y (by simp), g4 12 y (by simp), h12], fun x x0 x1 => by rw [f2 23 6 (by simp), g4 23 6 (by simp)]; exact hp x x0 x1, fun i i0 i1 => by rw [f2 23 7 (by simp), g4 23 7 (by simp)]; exact hA i i0 i1, fun i i0 i1 => ⟨e6 i i0 i1, by have := k2 i; omega⟩⟩ ⟨by omega, hnl⟩) (by decide) ?_
      rintro r M3 ⟨bl, rfl⟩
      refine ⟨fun w => skip (fun y => (jBl_eq bl).mp w y.2), fun w => ?_⟩
      have y : A n = -1 ∧ isG C p A (gS C p A n).2 n := ⟨z, (jBl_ne bl).mp w⟩
      have e := gS_yes y
      have c3 : M3 24 0 3 = (gS C p A n).1 := by rw [f2 24 0 (by simp), g1]
      have c3' : (jup M3 24 6 (n : Int) (M3 24 0 3)) 24 0 3 = (gS C p A n).1 := by rw [jup_ne (by simp), c3]
      have c3'' : (jup (jup M3 24 6 (n : Int) (M3 24 0 3)) 24 5 ((gS C p A n).1) n) 24 0 3 = (gS C p A n).1 := by rw [jup_ne (by simp), c3']
      rw [c3', c3'', c3, jwr_id (z := (gS C p A n).1 + 1) (by omega) (by omega), jwr_id (by omega) (by omega), en]
      refine ⟨bn6, ⟨by omega, by rw [show jal 24 5 = 14 from rfl]; omega⟩, ih (n + 1) (by omega) _ (by rw [jup_eq, e]) (fun i i0 i1 => ?_) (fun i i0 i1 h => ?_) (fun x y h => ?_)⟩
      · rw [e, jup_ne (by simp), jup_ne (by simp)]
        dsimp only
        by_cases u : i = n
        · rw [u, jup_eq, jfu_eq]
        · rw [jup_ne (by simp [u]), jfu_ne u, e6 i i0 (by omega)]
      · rw [e] at h ⊢
        dsimp only at h ⊢
        rw [jup_ne (by simp)]
        by_cases u : i = n
        · rw [u, jfu_eq, jup_eq]
        · rw [jfu_ne u] at h ⊢
          have := k2 i
          rw [jup_ne (by omega), jup_ne (by simp), f2 24 5 (by simp)]
          exact g3 i i0 (by omega) h
      · rw [jup_set, jset_ne (by omega), jup_set, jset_ne (by omega), jup_set, jset_ne (by omega), f2 x y (by omega), g4 x y h]
  refine key (C 12 0 1).toNat 0 (by omega) _ (by rw [jup_eq]; rfl) (fun i i0 i1 => by omega) (fun i i0 i1 => by omega) (fun x y h => by rw [jup_set, jset_ne (by omega)])
theorem c_endOver_24 {C M : jM} {p A G : Int → Int} {c T q : Int} (hNa : jNB C 12) (hE : jEs C 12) (hS : jGs C M 24 23 p A G (C 12 0 1)) (hT : M 24 5 c = T) (h0 : 0 ≤ T) (h1 : T < C 12 0 1) (hc : 0 ≤ c ∧ c < 14) (hq : 0 ≤ q ∧ q < 3) : jCallP 1 127 [.inr (24, 0), .inl c, .inl q] M (fun r M' => r = ovr p A G (C 12 6 (3 * T + q)) ∧ M' = M) := by
  have t1 := hNa.2
  have h12 := hS.1
  obtain ⟨e0, e1, e2⟩ := hE T q h0 h1 hq.1 hq.2
  refine jstart (by decide) rfl (fX1_endOver_24_0 ?_)
  rw [hT, jwr_id (z := T * 3) (by omega) (by omega), jwr_id (z := T * 3 + q) (by omega) (by omega), show T * 3 + q = 3 * T + q by omega, h12]
  refine ⟨by omega, ⟨hc.1, by rw [show jal 24 5 = 14 from rfl]; omega⟩, ⟨by omega, by rw [jal_n6 (g := 12) (by omega)]; omega⟩, ?_⟩
  exact jcq (c_over_24 (C := C) hNa hS (Int.le_refl _) e0 e1 (by omega)) (by decide) (fun r M' h => h)
theorem c_isTold_24 {C M : jM} {p A G : Int → Int} {c T k g : Int} (hNa : jNB C 12) (hE : jEs C 12) (hS : jGs C M 24 23 p A G (C 12 0 1)) (hT : M 24 5 c = T) (h0 : 0 ≤ T) (h1 : T < C 12 0 1) (hc : 0 ≤ c ∧ c < 14) (hg : 0 ≤ g ∧ g < 18) (hNg : jNB M g) (hk : 0 ≤ k ∧ k < 16) : jCallP 2 130 [.inr (24, 0), .inl c, .inl k, .inr (g, 0), .inr (19, 0)] M (fun r M' => jBl r (¬ fnd M g k (ovr p A G (C 12 6 (3 * T))) (ovr p A G (C 12 6 (3 * T + 1))) (ovr p A G (C 12 6 (3 * T + 2))) = -1) ∧ M' = M) := by
  refine jstart (by decide) rfl (fX1_isTold_24_0 ?_)
  refine jcq (c_endOver_24 (q := 0) hNa hE hS hT h0 h1 hc (by omega)) (by decide) ?_
  rintro r0 M0 ⟨e0, rfl⟩
  refine jcq (c_endOver_24 (q := 1) hNa hE hS hT h0 h1 hc (by omega)) (by decide) ?_
  rintro r1 M1 ⟨e1, rfl⟩
  refine jcq (c_endOver_24 (q := 2) hNa hE hS hT h0 h1 hc (by omega)) (by decide) ?_
  rintro r2 M2 ⟨e2, rfl⟩
  refine ⟨hg, jcq (c_find hg hNg k hk r0 r1 r2) (by decide) ?_⟩
  rintro r3 M3 ⟨e3, rfl⟩
  rw [Int.add_zero] at e0
  rw [← e0, ← e1, ← e2, ← e3]
  exact ⟨fun z => ⟨Or.inl rfl, Or.inr ⟨rfl, fun w => w z⟩, rfl⟩, fun z => ⟨Or.inr rfl, Or.inl ⟨rfl, z⟩, rfl⟩⟩
theorem c_isHeld_24 {C M : jM} {p A G : Int → Int} {c T g : Int} (hNa : jNB C 12) (hE : jEs C 12) (hK : jKd C 12) (hS : jGs C M 24 23 p A G (C 12 0 1)) (hT : M 24 5 c = T) (h0 : 0 ≤ T) (h1 : T < C 12 0 1) (hc : 0 ≤ c ∧ c < 14) (hg : 0 ≤ g ∧ g < 18) (hNg : jNB M g) : jCallP 3 128 [.inr (24, 0), .inl c, .inr (g, 0), .inr (19, 0)] M (fun r M' => jBl r (¬ fnd M g (C 12 5 T) (ovr p A G (C 12 6 (3 * T))) (ovr p A G (C 12 6 (3 * T + 1))) (ovr p A G (C 12 6 (3 * T + 2))) = -1) ∧ M' = M) := by
  have t1 := hNa.2
  have h12 := hS.1
  refine jstart (by decide) rfl (fX1_isHeld_24_0 ?_)
  rw [hT, h12]
  refine ⟨by omega, ⟨hc.1, by rw [show jal 24 5 = 14 from rfl]; omega⟩, ⟨h0, by rw [jal_n5 (g := 12) (by omega)]; omega⟩, ?_⟩
  refine jcq (c_isTold_24 hNa hE hS hT h0 h1 hc hg hNg (hK T h0 h1)) (by decide) ?_
  rintro r M' ⟨bl, rfl⟩
  exact ⟨jBl_01 bl, bl, rfl⟩
theorem c_isAgainst_24 {C M : jM} {p A G : Int → Int} {c T g : Int} (hNa : jNB C 12) (hE : jEs C 12) (hK : jKd C 12) (hL : jLV C) (h19 : M 19 = C 19) (hS : jGs C M 24 23 p A G (C 12 0 1)) (hT : M 24 5 c = T) (h0 : 0 ≤ T) (h1 : T < C 12 0 1) (hc : 0 ≤ c ∧ c < 14) (hg : 0 ≤ g ∧ g < 18) (hNg : jNB M g) : jCallP 3 129 [.inr (24, 0), .inl c, .inr (g, 0), .inr (19, 0)] M (fun r M' => jBl r (¬ C 19 4 (C 12 5 T) = -1 ∧ ¬ fnd M g (C 19 4 (C 12 5 T)) (ovr p A G (C 12 6 (3 * T))) (ovr p A G (C 12 6 (3 * T + 1))) (ovr p A G (C 12 6 (3 * T + 2))) = -1) ∧ M' = M) := by
  have t1 := hNa.2
  have h12 := hS.1
  have hk := hK T h0 h1
  obtain ⟨-, -, -, -, w4, -, -⟩ := hL _ hk.1 hk.2
  refine jstart (by decide) rfl (fX1_isAgainst_24_0 ?_)
  rw [hT, h12, h19]
  refine ⟨by omega, ⟨hc.1, by rw [show jal 24 5 = 14 from rfl]; omega⟩, ⟨h0, by rw [jal_n5 (g := 12) (by omega)]; omega⟩, ⟨hk.1, by rw [show jal 19 4 = 16 from rfl]; exact hk.2⟩, fun z => ⟨Or.inl rfl, Or.inr ⟨rfl, fun w => w.1 z⟩, rfl⟩, fun z => ?_⟩
  refine jcq (c_isTold_24 hNa hE hS hT h0 h1 hc hg hNg (k := C 19 4 (C 12 5 T)) (by omega)) (by decide) ?_
  rintro r M' ⟨bl, rfl⟩
  exact ⟨fun w => ⟨Or.inl rfl, Or.inr ⟨rfl, fun w2 => (jBl_eq bl).mp w w2.2⟩, rfl⟩, fun w => ⟨Or.inr rfl, Or.inl ⟨rfl, z, (jBl_ne bl).mp w⟩, rfl⟩⟩
theorem c_gather_25 {C M : jM} {p A : Int → Int} (hNa : jNB C 12) (hE : jEs C 12) (hS : jGs C M 25 20 p A (fun _ => -1) 0) : jCallP 2 124 [.inr (25, 0)] M (fun _ M' => jGl C M' 25 20 p A ∧ ∀ x y, ¬ (x = 25 ∧ (y = 0 ∨ y = 5 ∨ y = 6)) → M' x y = M x y) := by
  have b1 := hNa.1
  have t1 := hNa.2
  obtain ⟨h12, hp, hA, -⟩ := hS
  refine jstart (by decide) rfl (fX1_gather_25_0 ?_)
  have key : ∀ j n : Nat, ((n + j : Nat) : Int) = C 12 0 1 → ∀ M1 : jM, M1 25 0 3 = (gS C p A n).1 → (∀ i : Int, 0 ≤ i → i < n → M1 25 6 i = (gS C p A n).2 i) → (∀ i : Int, 0 ≤ i → i < n → 0 ≤ (gS C p A n).2 i → M1 25 5 ((gS C p A n).2 i) = i) → (∀ x y, ¬ (x = 25 ∧ (y = 0 ∨ y = 5 ∨ y = 6)) → M1 x y = M x y) → jWP 2 124 7 [some (.inr (25, 0)), some (.inl (n : Int))] [] M1 (fun _ M' => jGl C M' 25 20 p A ∧ ∀ x y, ¬ (x = 25 ∧ (y = 0 ∨ y = 5 ∨ y = 6)) → M' x y = M x y) := by
    intro j
    induction j with
    | zero =>
      intro n hn M1 g1 g2 g3 g4
      have en : (C 12 0 1).toNat = n := by omega
      obtain ⟨k1, k2, k3, k4, k5⟩ := gS_bd C p A n
      refine fX1_gather_25_7 ?_
      rw [g4 12 0 (by simp), h12]
      refine ⟨by omega, fun _ => ⟨⟨⟨by funext y; rw [g4 12 y (by simp), h12], fun x x0 x1 => by rw [g4 20 6 (by simp)]; exact hp x x0 x1, fun i i0 i1 => by rw [g4 20 7 (by simp)]; exact hA i i0 i1, fun i i0 i1 => ?_⟩, by rw [en]; exact g1, fun i i0 i1 h => ?_⟩, g4⟩, fun z => by exfalso; omega⟩
      · rw [en]
        have := k2 i
        exact ⟨g2 i i0 (by omega), by omega, by omega⟩
      · rw [en] at h ⊢
        exact g3 i i0 (by omega) h
    | succ j ih =>
      intro n hn M1 g1 g2 g3 g4
      obtain ⟨k1, k2, k3, k4, k5⟩ := gS_bd C p A n
      have hnl : (n : Int) < C 12 0 1 := by omega
      have en : (n : Int) + 1 = ((n + 1 : Nat) : Int) := by omega
      obtain ⟨a1, a2, a3⟩ := hA n (by omega) hnl
      have bn6 : 0 ≤ (n : Int) ∧ (n : Int) < jal 25 6 := by rw [show jal 25 6 = 14 from rfl]; omega
      have bn7 : 0 ≤ (n : Int) ∧ (n : Int) < jal 20 7 := by rw [show jal 20 7 = 14 from rfl]; omega
      generalize hM2 : jup M1 25 6 (n : Int) (-1) = M2
      have f2 : ∀ x y, ¬ (x = 25 ∧ y = 6) → M2 x y = M1 x y := fun x y h => by rw [← hM2, jup_set, jset_ne h]
      have e6 : ∀ i : Int, 0 ≤ i → i < n → M2 25 6 i = (gS C p A n).2 i := fun i i0 i1 => by rw [← hM2, jup_ne (by omega)]; exact g2 i i0 i1
      have e6n : M2 25 6 n = -1 := by rw [← hM2, jup_eq]
      have skip : ¬ (A n = -1 ∧ isG C p A (gS C p A n).2 n) → jWP 2 124 7 [some (.inr (25, 0)), some (.inl (jwr ((n : Int) + 1)))] [] M2 (fun _ M' => jGl C M' 25 20 p A ∧ ∀ x y, ¬ (x = 25 ∧ (y = 0 ∨ y = 5 ∨ y = 6)) → M' x y = M x y) := fun y => by
        have e := gS_no y
        rw [jwr_id (by omega) (by omega), en]
        refine ih (n + 1) (by omega) M2 (by rw [f2 25 0 (by simp), e, g1]) (fun i i0 i1 => ?_) (fun i i0 i1 h => ?_) (fun x y h => by rw [f2 x y (by omega), g4 x y h])
        · rw [e]
          by_cases u : i = n
          · rw [u, e6n, k3 n (by omega)]
          · exact e6 i i0 (by omega)
        · rw [e] at h ⊢
          rw [f2 25 5 (by simp)]
          refine g3 i i0 ?_ h
          apply Classical.byContradiction
          intro u
          rw [k3 i (by omega)] at h
          omega
      refine fX1_gather_25_7 ?_
      rw [hM2, g4 12 0 (by simp), h12, f2 20 7 (by simp), g4 20 7 (by simp), a1]
      refine ⟨by omega, fun z => by exfalso; omega, fun _ => ⟨bn6, bn7, fun z => skip (fun y => z y.1), fun z => ?_⟩⟩
      refine jcq (c_isGuess_25 (C := C) (p := p) (A := A) (G := (gS C p A n).2) (i := n) hNa hE ⟨by funext y; rw [f2 12 y (by simp), g4 12 y (by simp), h12], fun x x0 x1 => by rw [f2 20 6 (by simp), g4 20 6 (by simp)]; exact hp x x0 x1, fun i i0 i1 => by rw [f2 20 7 (by simp), g4 20 7 (by simp)]; exact hA i i0 i1, fun i i0 i1 => ⟨e6 i i0 i1, by have := k2 i; omega⟩⟩ ⟨by omega, hnl⟩) (by decide) ?_
      rintro r M3 ⟨bl, rfl⟩
      refine ⟨fun w => skip (fun y => (jBl_eq bl).mp w y.2), fun w => ?_⟩
      have y : A n = -1 ∧ isG C p A (gS C p A n).2 n := ⟨z, (jBl_ne bl).mp w⟩
      have e := gS_yes y
      have c3 : M3 25 0 3 = (gS C p A n).1 := by rw [f2 25 0 (by simp), g1]
      have c3' : (jup M3 25 6 (n : Int) (M3 25 0 3)) 25 0 3 = (gS C p A n).1 := by rw [jup_ne (by simp), c3]
      have c3'' : (jup (jup M3 25 6 (n : Int) (M3 25 0 3)) 25 5 ((gS C p A n).1) n) 25 0 3 = (gS C p A n).1 := by rw [jup_ne (by simp), c3']
      rw [c3', c3'', c3, jwr_id (z := (gS C p A n).1 + 1) (by omega) (by omega), jwr_id (by omega) (by omega), en]
      refine ⟨bn6, ⟨by omega, by rw [show jal 25 5 = 14 from rfl]; omega⟩, ih (n + 1) (by omega) _ (by rw [jup_eq, e]) (fun i i0 i1 => ?_) (fun i i0 i1 h => ?_) (fun x y h => ?_)⟩
      · rw [e, jup_ne (by simp), jup_ne (by simp)]
        dsimp only
        by_cases u : i = n
        · rw [u, jup_eq, jfu_eq]
        · rw [jup_ne (by simp [u]), jfu_ne u, e6 i i0 (by omega)]
      · rw [e] at h ⊢
        dsimp only at h ⊢
        rw [jup_ne (by simp)]
        by_cases u : i = n
        · rw [u, jfu_eq, jup_eq]
        · rw [jfu_ne u] at h ⊢
          have := k2 i
          rw [jup_ne (by omega), jup_ne (by simp), f2 25 5 (by simp)]
          exact g3 i i0 (by omega) h
      · rw [jup_set, jset_ne (by omega), jup_set, jset_ne (by omega), jup_set, jset_ne (by omega), f2 x y (by omega), g4 x y h]
  refine key (C 12 0 1).toNat 0 (by omega) _ (by rw [jup_eq]; rfl) (fun i i0 i1 => by omega) (fun i i0 i1 => by omega) (fun x y h => by rw [jup_set, jset_ne (by omega)])
theorem c_endOver_25 {C M : jM} {p A G : Int → Int} {c T q : Int} (hNa : jNB C 12) (hE : jEs C 12) (hS : jGs C M 25 20 p A G (C 12 0 1)) (hT : M 25 5 c = T) (h0 : 0 ≤ T) (h1 : T < C 12 0 1) (hc : 0 ≤ c ∧ c < 14) (hq : 0 ≤ q ∧ q < 3) : jCallP 1 127 [.inr (25, 0), .inl c, .inl q] M (fun r M' => r = ovr p A G (C 12 6 (3 * T + q)) ∧ M' = M) := by
  have t1 := hNa.2
  have h12 := hS.1
  obtain ⟨e0, e1, e2⟩ := hE T q h0 h1 hq.1 hq.2
  refine jstart (by decide) rfl (fX1_endOver_25_0 ?_)
  rw [hT, jwr_id (z := T * 3) (by omega) (by omega), jwr_id (z := T * 3 + q) (by omega) (by omega), show T * 3 + q = 3 * T + q by omega, h12]
  refine ⟨by omega, ⟨hc.1, by rw [show jal 25 5 = 14 from rfl]; omega⟩, ⟨by omega, by rw [jal_n6 (g := 12) (by omega)]; omega⟩, ?_⟩
  exact jcq (c_over_25 (C := C) hNa hS (Int.le_refl _) e0 e1 (by omega)) (by decide) (fun r M' h => h)
theorem c_isTold_25 {C M : jM} {p A G : Int → Int} {c T k g : Int} (hNa : jNB C 12) (hE : jEs C 12) (hS : jGs C M 25 20 p A G (C 12 0 1)) (hT : M 25 5 c = T) (h0 : 0 ≤ T) (h1 : T < C 12 0 1) (hc : 0 ≤ c ∧ c < 14) (hg : 0 ≤ g ∧ g < 18) (hNg : jNB M g) (hk : 0 ≤ k ∧ k < 16) : jCallP 2 130 [.inr (25, 0), .inl c, .inl k, .inr (g, 0), .inr (19, 0)] M (fun r M' => jBl r (¬ fnd M g k (ovr p A G (C 12 6 (3 * T))) (ovr p A G (C 12 6 (3 * T + 1))) (ovr p A G (C 12 6 (3 * T + 2))) = -1) ∧ M' = M) := by
  refine jstart (by decide) rfl (fX1_isTold_25_0 ?_)
  refine jcq (c_endOver_25 (q := 0) hNa hE hS hT h0 h1 hc (by omega)) (by decide) ?_
  rintro r0 M0 ⟨e0, rfl⟩
  refine jcq (c_endOver_25 (q := 1) hNa hE hS hT h0 h1 hc (by omega)) (by decide) ?_
  rintro r1 M1 ⟨e1, rfl⟩
  refine jcq (c_endOver_25 (q := 2) hNa hE hS hT h0 h1 hc (by omega)) (by decide) ?_
  rintro r2 M2 ⟨e2, rfl⟩
  refine ⟨hg, jcq (c_find hg hNg k hk r0 r1 r2) (by decide) ?_⟩
  rintro r3 M3 ⟨e3, rfl⟩
  rw [Int.add_zero] at e0
  rw [← e0, ← e1, ← e2, ← e3]
  exact ⟨fun z => ⟨Or.inl rfl, Or.inr ⟨rfl, fun w => w z⟩, rfl⟩, fun z => ⟨Or.inr rfl, Or.inl ⟨rfl, z⟩, rfl⟩⟩
theorem c_isHeld_25 {C M : jM} {p A G : Int → Int} {c T g : Int} (hNa : jNB C 12) (hE : jEs C 12) (hK : jKd C 12) (hS : jGs C M 25 20 p A G (C 12 0 1)) (hT : M 25 5 c = T) (h0 : 0 ≤ T) (h1 : T < C 12 0 1) (hc : 0 ≤ c ∧ c < 14) (hg : 0 ≤ g ∧ g < 18) (hNg : jNB M g) : jCallP 3 128 [.inr (25, 0), .inl c, .inr (g, 0), .inr (19, 0)] M (fun r M' => jBl r (¬ fnd M g (C 12 5 T) (ovr p A G (C 12 6 (3 * T))) (ovr p A G (C 12 6 (3 * T + 1))) (ovr p A G (C 12 6 (3 * T + 2))) = -1) ∧ M' = M) := by
  have t1 := hNa.2
  have h12 := hS.1
  refine jstart (by decide) rfl (fX1_isHeld_25_0 ?_)
  rw [hT, h12]
  refine ⟨by omega, ⟨hc.1, by rw [show jal 25 5 = 14 from rfl]; omega⟩, ⟨h0, by rw [jal_n5 (g := 12) (by omega)]; omega⟩, ?_⟩
  refine jcq (c_isTold_25 hNa hE hS hT h0 h1 hc hg hNg (hK T h0 h1)) (by decide) ?_
  rintro r M' ⟨bl, rfl⟩
  exact ⟨jBl_01 bl, bl, rfl⟩
theorem c_isAgainst_25 {C M : jM} {p A G : Int → Int} {c T g : Int} (hNa : jNB C 12) (hE : jEs C 12) (hK : jKd C 12) (hL : jLV C) (h19 : M 19 = C 19) (hS : jGs C M 25 20 p A G (C 12 0 1)) (hT : M 25 5 c = T) (h0 : 0 ≤ T) (h1 : T < C 12 0 1) (hc : 0 ≤ c ∧ c < 14) (hg : 0 ≤ g ∧ g < 18) (hNg : jNB M g) : jCallP 3 129 [.inr (25, 0), .inl c, .inr (g, 0), .inr (19, 0)] M (fun r M' => jBl r (¬ C 19 4 (C 12 5 T) = -1 ∧ ¬ fnd M g (C 19 4 (C 12 5 T)) (ovr p A G (C 12 6 (3 * T))) (ovr p A G (C 12 6 (3 * T + 1))) (ovr p A G (C 12 6 (3 * T + 2))) = -1) ∧ M' = M) := by
  have t1 := hNa.2
  have h12 := hS.1
  have hk := hK T h0 h1
  obtain ⟨-, -, -, -, w4, -, -⟩ := hL _ hk.1 hk.2
  refine jstart (by decide) rfl (fX1_isAgainst_25_0 ?_)
  rw [hT, h12, h19]
  refine ⟨by omega, ⟨hc.1, by rw [show jal 25 5 = 14 from rfl]; omega⟩, ⟨h0, by rw [jal_n5 (g := 12) (by omega)]; omega⟩, ⟨hk.1, by rw [show jal 19 4 = 16 from rfl]; exact hk.2⟩, fun z => ⟨Or.inl rfl, Or.inr ⟨rfl, fun w => w.1 z⟩, rfl⟩, fun z => ?_⟩
  refine jcq (c_isTold_25 hNa hE hS hT h0 h1 hc hg hNg (k := C 19 4 (C 12 5 T)) (by omega)) (by decide) ?_
  rintro r M' ⟨bl, rfl⟩
  exact ⟨fun w => ⟨Or.inl rfl, Or.inr ⟨rfl, fun w2 => (jBl_eq bl).mp w w2.2⟩, rfl⟩, fun w => ⟨Or.inr rfl, Or.inl ⟨rfl, z, (jBl_ne bl).mp w⟩, rfl⟩⟩
