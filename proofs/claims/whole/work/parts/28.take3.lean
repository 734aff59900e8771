def jRdy (C M : jM) (a b lv tm wg : Int) : Prop := M 20 0 1 = a ∧ M 20 0 2 = b ∧ M 20 0 3 = wg ∧ jTm C M a b tm ∧ (∀ i, 0 ≤ i → i < C a 0 1 → jCmp C M a b lv wg i (C b 0 1)) ∧
  (∀ p e, 0 ≤ p → p < 3 → 0 ≤ e → e < 24 → isM (M 20 13 (24 * p + e)) (fun j => j < C b 0 1 ∧ C b 6 (3 * j + p) = e)) ∧ M 19 = C 19 ∧ M a = C a ∧ M b = C b
/-- what a tale must be for its ties to be compared -/
def jTl (C : jM) (g : Int) : Prop := (0 ≤ g ∧ g < 18) ∧ jNB C g ∧ jKd C g ∧ jMo C g
theorem c_take {C M : jM} {a b lv tm wg : Int} (hA : jTl C a) (hB : jTl C b) (hL : jLV C) (hlv : 0 ≤ lv ∧ lv < 3) (h19 : M 19 = C 19) (hMa : M a = C a) (hMb : M b = C b) :
    jCallP 3 111 [.inr (20, 0), .inr (a, 0), .inr (b, 0), .inl lv, .inl tm, .inl wg] M (fun _ M' => jRdy C M' a b lv tm wg ∧ ∀ x y, ¬ ((x = 21 ∧ (y = 0 ∨ y = 4 ∨ y = 5)) ∨ (x = 20 ∧ (y = 0 ∨ y = 9 ∨ y = 10 ∨ y = 11 ∨ y = 12 ∨ y = 13))) → M' x y = M x y) := by
  obtain ⟨ha, hNa, hKa, hOa⟩ := hA
  obtain ⟨hb, hNb, hKb, hOb⟩ := hB
  refine jstart (by decide) rfl (fX0_take_0 ⟨ha, hb, ?_⟩)
  generalize hM0 : jup (jup (jup M 20 0 1 a) 20 0 2 b) 20 0 3 wg = M0
  have z : ∀ x y, ¬ (x = 20 ∧ y = 0) → M0 x y = M x y := fun x y h => by rw [← hM0, jup_set, jset_ne h, jup_set, jset_ne h, jup_set, jset_ne h]
  have z1 : M0 20 0 1 = a := by rw [← hM0, jup_ne (by simp), jup_ne (by simp), jup_eq]
  have z2 : M0 20 0 2 = b := by rw [← hM0, jup_ne (by simp), jup_eq]
  have z3 : M0 20 0 3 = wg := by rw [← hM0, jup_eq]
  refine jcq (c_Ttake (C := C) (tm := tm) ha hb hNa hNb (by funext y; rw [z _ _ (by omega), hMa]) (by funext y; rw [z _ _ (by omega), hMb])) (by decide) ?_
  rintro r1 M1 ⟨hT, f1⟩
  have a1 : M1 20 0 1 = a := by rw [f1 _ _ (by decide), z1]
  have a2 : M1 20 0 2 = b := by rw [f1 _ _ (by decide), z2]
  have a3 : M1 20 0 3 = wg := by rw [f1 _ _ (by decide), z3]
  have aC : ∀ x y, ¬ ((x = 21 ∧ (y = 0 ∨ y = 4 ∨ y = 5)) ∨ (x = 20 ∧ y = 0)) → M1 x y = M x y := fun x y h => by rw [f1 _ _ (fun q => h (Or.inl q)), z _ _ (fun q => h (Or.inr q))]
  -- the ties of a, one by one
  have loop1 : ∀ n, 0 ≤ n → n ≤ C a 0 1 → ∀ M2 : jM, (∀ i, 0 ≤ i → i < n → jCmp C M2 a b lv wg i (C b 0 1)) → (∀ x y, ¬ (x = 20 ∧ (y = 9 ∨ y = 10 ∨ y = 11 ∨ y = 12)) → M2 x y = M1 x y) →
      jWP 3 111 30 [some (.inr (20, 0)), none, none, some (.inl lv), none, none, some (.inl n)] [] M2 (fun _ M' => jRdy C M' a b lv tm wg ∧ ∀ x y, ¬ ((x = 21 ∧ (y = 0 ∨ y = 4 ∨ y = 5)) ∨ (x = 20 ∧ (y = 0 ∨ y = 9 ∨ y = 10 ∨ y = 11 ∨ y = 12 ∨ y = 13))) → M' x y = M x y) := by
    refine jloop (e := C a 0 1) (fun M2 g1 g2 => ?_) (fun n n0 n1 ih M2 g1 g2 => ?_)
    · have b1 : M2 20 0 1 = a := by rw [g2 _ _ (by simp), a1]
      have ba : M2 a 0 1 = C a 0 1 := by rw [g2 _ _ (by omega), aC _ _ (by omega), hMa]
      refine fX0_take_30 ?_
      rw [b1, ba]
      refine ⟨ha, fun _ => ?_, fun q => by exfalso; omega⟩
      -- the cells by ends are emptied
      have loop2 : ∀ n, 0 ≤ n → n ≤ 72 → ∀ M3 : jM, (∀ c, 0 ≤ c → c < n → M3 20 13 c = 0) → (∀ x y, ¬ (x = 20 ∧ y = 13) → M3 x y = M2 x y) →
          jWP 3 111 58 [some (.inr (20, 0)), none, none, none, none, none, some (.inl n)] [] M3 (fun _ M' => jRdy C M' a b lv tm wg ∧ ∀ x y, ¬ ((x = 21 ∧ (y = 0 ∨ y = 4 ∨ y = 5)) ∨ (x = 20 ∧ (y = 0 ∨ y = 9 ∨ y = 10 ∨ y = 11 ∨ y = 12 ∨ y = 13))) → M' x y = M x y) := by
        refine jloop (e := 72) (fun M3 k1 k2 => ?_) (fun n n0 n1 ih M3 k1 k2 => ?_)
        · refine fX0_take_58 ⟨fun _ => ?_, fun q => by exfalso; omega⟩
          have loop3 : ∀ n, 0 ≤ n → n ≤ C b 0 1 → ∀ M4 : jM, (∀ p e, 0 ≤ p → p < 3 → 0 ≤ e → e < 24 → isM (M4 20 13 (24 * p + e)) (fun j => (j < C b 0 1 ∧ C b 6 (3 * j + p) = e) ∧ j < n)) → (∀ x y, ¬ (x = 20 ∧ y = 13) → M4 x y = M2 x y) →
              jWP 3 111 82 [some (.inr (20, 0)), none, none, none, none, none, some (.inl n)] [] M4 (fun _ M' => jRdy C M' a b lv tm wg ∧ ∀ x y, ¬ ((x = 21 ∧ (y = 0 ∨ y = 4 ∨ y = 5)) ∨ (x = 20 ∧ (y = 0 ∨ y = 9 ∨ y = 10 ∨ y = 11 ∨ y = 12 ∨ y = 13))) → M' x y = M x y) := by
            have fr : ∀ M4 : jM, (∀ x y, ¬ (x = 20 ∧ y = 13) → M4 x y = M2 x y) → ∀ x y, ¬ ((x = 21 ∧ (y = 0 ∨ y = 4 ∨ y = 5)) ∨ (x = 20 ∧ (y = 0 ∨ y = 9 ∨ y = 10 ∨ y = 11 ∨ y = 12 ∨ y = 13))) → M4 x y = M x y := fun M4 w x y h => by
              rw [w _ _ (fun q => h (Or.inr ⟨q.1, by simp [q.2]⟩)), g2 _ _ (fun q => h (Or.inr ⟨q.1, by rcases q.2 with q | q | q | q <;> simp [q]⟩)), aC _ _ (fun q => h (by rcases q with q | q; exact Or.inl q; exact Or.inr ⟨q.1, Or.inl q.2⟩))]
            refine jloop (e := C b 0 1) (fun M4 w1 w2 => ?_) (fun n n0 n1 ih M4 w1 w2 => ?_)
            · have d2 : M4 20 0 2 = b := by rw [w2 _ _ (by simp), g2 _ _ (by simp), a2]
              have db : M4 b 0 1 = C b 0 1 := by rw [fr M4 w2 _ _ (by omega), hMb]
              refine fX0_take_82 ?_
              rw [d2, db]
              refine ⟨hb, fun _ => ⟨⟨?_, d2, ?_, ?_, fun i i0 i1 => ?_, fun p e p0 p1 e0 e1 => ?_, ?_, ?_, ?_⟩, fr M4 w2⟩, fun q => by exfalso; omega⟩
              · rw [w2 _ _ (by simp), b1]
              · rw [w2 _ _ (by simp), g2 _ _ (by simp), a3]
              · have e21 : ∀ y, M4 21 y = M1 21 y := fun y => by rw [w2 _ _ (by simp), g2 _ _ (by simp)]
                unfold jTm at hT ⊢
                simp only [e21]
                exact hT
              · have := g1 i i0 i1
                unfold jCmp at this ⊢
                rw [w2 20 9 (by simp), w2 20 10 (by simp), w2 20 11 (by simp), w2 20 12 (by simp)]
                exact this
              · exact (w1 p e p0 p1 e0 e1).congr (fun j _ _ => ⟨fun q => q.1, fun q => ⟨q, q.1⟩⟩)
              · funext y; rw [fr M4 w2 _ _ (by simp), h19]
              · funext y; rw [fr M4 w2 _ _ (by omega), hMa]
              · funext y; rw [fr M4 w2 _ _ (by omega), hMb]
            · have d2 : M4 20 0 2 = b := by rw [w2 _ _ (by simp), g2 _ _ (by simp), a2]
              have db : M4 b = C b := by funext y; rw [fr M4 w2 _ _ (by omega), hMb]
              have n14 := hNb.2.2
              refine fX0_take_82 ?_
              rw [d2, db]
              refine ⟨hb, fun q => by exfalso; omega, fun _ => ?_⟩
              refine jcq (c_noteEnds (C := C) hb hNb ⟨n0, n1⟩ d2 db) (by decide) ?_
              rintro r5 M5 ⟨u1, u2⟩
              rw [jwr_id (by omega) (by omega)]
              refine ih M5 (fun p e p0 p1 e0 e1 => ?_) (fun x y h => by rw [u2 x y h, w2 x y h])
              rw [u1 p e p0 p1 e0 e1]
              exact isM_more2 (w1 p e p0 p1 e0 e1) n0 (by omega) _ ⟨fun q => ⟨n1, q⟩, fun q => q.2⟩
          refine loop3 0 (by omega) hNb.2.1 M3 (fun p e p0 p1 e0 e1 => ?_) k2
          rw [k1 _ (by omega) (by omega)]
          exact isM_0.congr (fun j j0 j1 => ⟨fun q => q.elim, fun q => by have := q.2; omega⟩)
        · refine fX0_take_58 ⟨fun q => by exfalso; omega, fun _ => ⟨⟨n0, by rw [jal_20_13]; exact n1⟩, ?_⟩⟩
          rw [jwr_id (by omega) (by omega)]
          refine ih _ (fun c c0 c1 => ?_) (fun x y h => by rw [jup_set, jset_ne h]; exact k2 x y h)
          by_cases hc : c = n
          · rw [hc, jup_eq]
          · rw [jup_ne (by simp [hc])]; exact k1 c c0 (by omega)
      exact loop2 0 (by omega) (by omega) M2 (fun c c0 c1 => by omega) (fun _ _ _ => rfl)
    · have b1 : M2 20 0 1 = a := by rw [g2 _ _ (by simp), a1]
      have b2 : M2 20 0 2 = b := by rw [g2 _ _ (by simp), a2]
      have b3 : M2 20 0 3 = wg := by rw [g2 _ _ (by simp), a3]
      have ba : M2 a = C a := by funext y; rw [g2 _ _ (by omega), aC _ _ (by omega), hMa]
      have bb : M2 b = C b := by funext y; rw [g2 _ _ (by omega), aC _ _ (by omega), hMb]
      have b19 : M2 19 = C 19 := by funext y; rw [g2 _ _ (by simp), aC _ _ (by simp), h19]
      have n14 := hNa.2.2
      refine fX0_take_30 ?_
      rw [b1, ba]
      refine ⟨ha, fun q => by exfalso; omega, fun _ => ?_⟩
      refine jcq (c_compareTie (C := C) ha hb hL hNa hNb hKa hKb ⟨n0, n1⟩ hlv b1 b2 b3 b19 ba bb) (by decide) ?_
      rintro r5 M5 ⟨u1, u2⟩
      rw [jwr_id (by omega) (by omega)]
      refine ih M5 (fun i i0 i1 => ?_) (fun x y h => by funext c; rw [u2 x y c (fun q => h ⟨q.1, q.2.1⟩), g2 x y h])
      by_cases hi : i = n
      · rw [hi]; exact u1
      · have := g1 i i0 (by omega)
        unfold jCmp at this ⊢
        rw [u2 20 9 i (by simp [hi]), u2 20 10 i (by simp [hi]), u2 20 11 i (by simp [hi]), u2 20 12 i (by simp [hi])]
        exact this
  exact loop1 0 (by omega) hNa.2.1 M1 (fun i i0 i1 => by omega) (fun _ _ _ => rfl)
