/-! noteFirst, weaveLeft -/
theorem c_noteFirst {M : jM} {a : Int} (ha : 0 ≤ a ∧ a < 18) (hN : jNB M a) : jCallP 0 173 [.inr (26, 0), .inr (a, 0)] M (fun _ M' => (∀ x, 0 ≤ x → x < M a 0 0 → M' 26 4 x = M 20 6 x) ∧ (∀ i, 0 ≤ i → i < M a 0 1 → M' 26 5 i = M 20 7 i) ∧ ∀ x y, ¬ (x = 26 ∧ (y = 4 ∨ y = 5)) → M' x y = M x y) := by
  have n1 := hN.1
  have n2 := hN.2
  refine jstart (by decide) rfl (fX8_noteFirst_0 ?_)
  have k2 : ∀ i, 0 ≤ i → i ≤ M a 0 1 → ∀ N : jM, (∀ x, 0 ≤ x → x < M a 0 0 → N 26 4 x = M 20 6 x) → (∀ j, 0 ≤ j → j < i → N 26 5 j = M 20 7 j) → (∀ x y, ¬ (x = 26 ∧ (y = 4 ∨ y = 5)) → N x y = M x y) → jWP 0 173 33 [some (.inr (26, 0)), some (.inr (a, 0)), some (.inl i)] [] N (fun _ M' => (∀ x, 0 ≤ x → x < M a 0 0 → M' 26 4 x = M 20 6 x) ∧ (∀ i, 0 ≤ i → i < M a 0 1 → M' 26 5 i = M 20 7 i) ∧ ∀ x y, ¬ (x = 26 ∧ (y = 4 ∨ y = 5)) → M' x y = M x y) := by
    refine jloop (e := M a 0 1) (fun N h4 h5 f => ?_) (fun i i0 i1 ih N h4 h5 f => ?_)
    · exact fX8_noteFirst_33 ⟨ha, fun _ => ⟨h4, h5, f⟩, fun z => by rw [f a 0 (by omega)] at z; exfalso; omega⟩
    · refine fX8_noteFirst_33 ⟨ha, fun z => by rw [f a 0 (by omega)] at z; exfalso; omega, fun _ => ⟨⟨i0, by rw [show jal 20 7 = 14 from rfl]; omega⟩, ⟨i0, by rw [show jal 26 5 = 14 from rfl]; omega⟩, ?_⟩⟩
      rw [jwr_id (by omega) (by omega), f 20 7 (by simp)]
      refine ih _ (fun x x0 x1 => by rw [jup_ne (by simp)]; exact h4 x x0 x1) (fun j j0 j1 => ?_) (fun x y h => by rw [jup_set, jset_ne (by omega), f x y h])
      by_cases u : j = i
      · rw [u, jup_eq]
      · rw [jup_ne (by omega)]; exact h5 j j0 (by omega)
  have k1 : ∀ i, 0 ≤ i → i ≤ M a 0 0 → ∀ N : jM, (∀ x, 0 ≤ x → x < i → N 26 4 x = M 20 6 x) → (∀ x y, ¬ (x = 26 ∧ (y = 4 ∨ y = 5)) → N x y = M x y) → jWP 0 173 2 [some (.inr (26, 0)), some (.inr (a, 0)), some (.inl i)] [] N (fun _ M' => (∀ x, 0 ≤ x → x < M a 0 0 → M' 26 4 x = M 20 6 x) ∧ (∀ i, 0 ≤ i → i < M a 0 1 → M' 26 5 i = M 20 7 i) ∧ ∀ x y, ¬ (x = 26 ∧ (y = 4 ∨ y = 5)) → M' x y = M x y) := by
    refine jloop (e := M a 0 0) (fun N h4 f => ?_) (fun i i0 i1 ih N h4 f => ?_)
    · exact fX8_noteFirst_2 ⟨ha, fun _ => k2 0 (by omega) (by omega) N h4 (fun j j0 j1 => by omega) f, fun z => by rw [f a 0 (by omega)] at z; exfalso; omega⟩
    · refine fX8_noteFirst_2 ⟨ha, fun z => by rw [f a 0 (by omega)] at z; exfalso; omega, fun _ => ⟨⟨i0, by rw [show jal 20 6 = 6 from rfl]; omega⟩, ⟨i0, by rw [show jal 26 4 = 6 from rfl]; omega⟩, ?_⟩⟩
      rw [jwr_id (by omega) (by omega), f 20 6 (by simp)]
      refine ih _ (fun j j0 j1 => ?_) (fun x y h => by rw [jup_set, jset_ne (by omega), f x y h])
      by_cases u : j = i
      · rw [u, jup_eq]
      · rw [jup_ne (by omega)]; exact h4 j j0 (by omega)
  exact k1 0 (by omega) (by omega) M (fun x x0 x1 => by omega) (fun _ _ _ => rfl)
def wLf (M S : jM) (c : Int) (n : Int) : Prop := S 14 0 0 = M c 0 0 ∧ S 14 0 1 = 0 ∧ S 14 0 2 = M c 0 2 ∧ (∀ z, 0 ≤ z → z < n → S 14 4 z = M c 4 z ∧ S 26 6 z = z) ∧ (∀ z, n ≤ z → z < 6 → S 26 6 z = -1) ∧ (∀ i, 0 ≤ i → i < 14 → S 26 7 i = -1) ∧ (∀ x y, ¬ (x = 14 ∧ (y = 0 ∨ y = 4)) → ¬ (x = 26 ∧ (y = 6 ∨ y = 7)) → S x y = M x y)
def lsN (F A : Int → Int) (n j : Int) : Prop := ∃ i, 0 ≤ i ∧ i < n ∧ F i = -1 ∧ ¬ A i = -1 ∧ A i = j
theorem c_weaveLeft {M : jM} {a c : Int} {F A : Int → Int} (ha : 0 ≤ a ∧ a < 14) (hc : 0 ≤ c ∧ c < 14) (hNa : jNB M a) (hGc : jGood M c) (hSc : jSr M c) (hF : ∀ i, 0 ≤ i → i < M a 0 1 → M 26 5 i = F i) (hA : ∀ i, 0 ≤ i → i < M a 0 1 → M 20 7 i = A i ∧ -1 ≤ A i ∧ A i < 14) :
    jCallP 3 174 [.inr (26, 0), .inr (a, 0), .inr (c, 0)] M (fun _ M' => ∃ S, wLf M S c (M c 0 0) ∧ jWk S ∧ wOk c (fun k => ¬ lsN F A (M a 0 1) k) (M c 5) (M c 7) S ∧ (∀ x y, ¬ (x = 26 ∧ (y = 8 ∨ y = 9)) → M' x y = wv c (fun k => ¬ lsN F A (M a 0 1) k) (M c 5) (M c 7) S (M c 0 1).toNat x y) ∧ ∀ i, 0 ≤ i → i < 14 → M' 26 8 i = wv c (fun k => ¬ lsN F A (M a 0 1) k) (M c 5) (M c 7) S (M c 0 1).toNat 26 7 i) := by
  have na := hNa.2
  have nc1 := hGc.1.2.1.1
  have nc2 := hGc.1.2.1.2
  refine jstart (by decide) rfl (fX8_weaveLeft_0 ?_)
  refine jcq (c_clear M) (by decide) ?_
  rintro r1 M1 ⟨z6, z7, f1⟩
  generalize hP : (fun k => ¬ lsN F A (M a 0 1) k) = P
  have pi : ∀ k, P k ↔ ¬ lsN F A (M a 0 1) k := fun k => by rw [← hP]
  generalize hQ : (fun (_ : Int) (M' : jM) => ∃ S, wLf M S c (M c 0 0) ∧ jWk S ∧ wOk c P (M c 5) (M c 7) S ∧ (∀ x y, ¬ (x = 26 ∧ (y = 8 ∨ y = 9)) → M' x y = wv c P (M c 5) (M c 7) S (M c 0 1).toNat x y) ∧ ∀ i, 0 ≤ i → i < 14 → M' 26 8 i = wv c P (M c 5) (M c 7) S (M c 0 1).toNat 26 7 i) = Q
  -- the ties
  have ties : ∀ S L, isM L (lsN F A (M a 0 1)) → wLf M S c (M c 0 0) → jWP 3 174 149 [some (.inr (26, 0)), none, some (.inr (c, 0)), some (.inl L), some (.inl 0), none] [] S Q := by
    intro S L hLs hS
    have hS' := hS
    obtain ⟨s0, s1, s2, s3, s4, s5, s7⟩ := hS
    have e19 : S 19 = M 19 := by funext y; exact s7 19 y (by simp) (by simp)
    have eg : ∀ g, 0 ≤ g ∧ g < 14 → S g = M g := fun g h => by funext y; exact s7 g y (by omega) (by omega)
    have hW : jWk S := by
      refine ⟨⟨⟨by omega, ⟨by omega, by omega⟩, fun i i0 i1 => by omega, fun i i0 i1 => by omega⟩, fun i q i0 i1 => by omega, fun i i0 i1 => by omega, fun i i0 i1 => by omega, fun i q i0 i1 => by omega⟩, fun i j i0 ij j1 => by omega, fun z z0 z1 => by rw [(s3 z z0 (by omega)).1]; exact hSc z z0 (by omega), fun x x0 x1 => ?_, fun i i0 i1 => by rw [s5 i i0 i1]; omega⟩
      by_cases u : x < M c 0 0
      · rw [(s3 x x0 u).2]; omega
      · rw [s4 x (by omega) x1]; omega
    have hO : wOk c P (M c 5) (M c 7) S := by
      refine ⟨hc, good_agr e19 (agr_fx (eg c hc)) (by omega) hGc, fun i i0 i1 _ => ?_⟩
      rw [eg c hc] at i1
      exact ⟨hGc.1.2.2.1 i i0 i1, by rw [e19, eg c hc], (hGc.1.2.2.2 i i0 i1).1, (hGc.1.2.2.2 i i0 i1).2⟩
    generalize hD : wv c P (M c 5) (M c 7) S = D
    have key : ∀ (j n : Nat) (N : jM), ((n + j : Nat) : Int) = M c 0 1 → eqo N (D n) → jWP 3 174 149 [some (.inr (26, 0)), none, some (.inr (c, 0)), some (.inl L), some (.inl (n : Int)), none] [] N Q := by
      intro j
      induction j with
      | zero =>
        intro n N hn hN
        have eNc : N c = M c := by
          rw [← eg c hc]
          funext y
          rw [hN c y (by omega), ← hD]
          exact (wv_fr _ _ _ _ _ n).1 c y (by omega) (by omega)
        refine fX8_weaveLeft_149 ⟨by omega, fun _ => ⟨by rw [show jal 26 7 = 14 from rfl, show jal 26 8 = 14 from rfl]; omega, ?_⟩, fun z => by rw [eNc] at z; exfalso; omega⟩
        rw [← hQ]
        refine ⟨S, hS', hW, hO, fun x y h => ?_, fun i i0 i1 => ?_⟩
        · rw [hD, show (M c 0 1).toNat = n by omega, jcp_ne (by omega)]
          exact hN x y (by omega)
        · rw [hD, show (M c 0 1).toNat = n by omega, jcp_eq i0 i1]
          rw [hN 26 7 (by simp)]
      | succ j ih =>
        intro n N hn hN
        have en : (n : Int) + 1 = ((n + 1 : Nat) : Int) := by omega
        obtain ⟨w1, w2⟩ := wv_wk hO hW n (by rw [eg c hc]; omega)
        obtain ⟨v1, v2, v3⟩ := wv_fr c P (M c 5) (M c 7) S n
        have st1 := wv_yes (g := c) (P := P) (K := M c 5) (Mo := M c 7) (D := S) (n := n)
        have st2 := wv_no (g := c) (P := P) (K := M c 5) (Mo := M c 7) (D := S) (n := n)
        rw [hD] at w1 w2 v1 v2 v3 st1 st2
        have eDc : D n c = M c := by rw [← eg c hc]; funext y; exact v1 c y (by omega) (by omega)
        have eD19 : D n 19 = M 19 := by rw [← e19]; funext y; exact v1 19 y (by simp) (by simp)
        have eNc : N c = M c := by rw [← eDc]; funext y; exact hN c y (by omega)
        have eN19 : N 19 = M 19 := by rw [← eD19]; funext y; exact hN 19 y (by simp)
        have no : ¬ (P n ∧ aE (D n) c n) → ∀ N', eqo N' (D n) → jWP 3 174 149 [some (.inr (26, 0)), none, some (.inr (c, 0)), some (.inl L), some (.inl (jwr ((n : Int) + 1))), none] [] N' Q := fun h N' hN' => by
          rw [jwr_id (by omega) (by omega), en]
          exact ih (n + 1) N' (by omega) (by rw [st2 h]; exact hN')
        refine fX8_weaveLeft_149 ⟨by omega, fun z => by rw [eNc] at z; exfalso; omega, fun _ => ⟨fun z => no (fun h => z ((hLs.test (by omega) (by omega)).mpr ((pi n).mp h.1))) N hN, fun z => ?_⟩⟩
        have hPn : P n := (pi n).mpr ((hLs.test (by omega) (by omega)).mp z)
        have gNc := good_agr eN19 (agr_fx eNc) (by omega) hGc
        refine jcq (c_bringEnds (M := N) (g := c) (i := n) (by omega) gNc.1.2.1 gNc.2.1 ⟨by omega, by rw [eNc]; omega⟩ (fun c c0 c1 => by rw [hN 26 7 (by simp)]; have := w1.2.2.2.2 c c0 c1; have := w1.1.1.2.1.2; omega)) (by decide) ?_
        rintro r1 N1 ⟨bl, f1, br⟩
        have hN1 : eqo N1 (D n) := fun x y h => by rw [f1 x y h, hN x y h]
        have eNE : ∀ e, nE N e = nE (D n) e := nE_fx hN
        have eAE : aE N c n ↔ aE (D n) c n := by
          unfold aE
          rw [eNc, eDc]
          simp only [eNE]
        refine ⟨fun q => no (fun h => (jBl_eq bl).mp q (eAE.mpr h.2)) N1 hN1, fun q => ?_⟩
        have eN1c : N1 c = M c := by rw [← eNc]; funext y; exact f1 c y (by omega)
        rw [eN1c]
        have e14 : N1 14 = D n 14 := by funext y; exact hN1 14 y (by simp)
        have hb14 := good_hb w1.1
        refine ⟨by omega, ⟨by omega, by rw [jal_n5 (by omega)]; omega⟩, by omega, ⟨by omega, by rw [jal_n7 (by omega)]; omega⟩, ?_⟩
        refine jcq (c_findOrPut (M := N1) (by unfold jNB; rw [e14]; exact w1.1.1.2.1) (by unfold jHB; rw [e14]; exact hb14) (hGc.1.2.2.1 n (by omega) (by omega))) (by decide) ?_
        rintro r4 N4 ⟨rfl, rfl⟩
        have hbe := bring_eqo (M := N1) (D := D n) (g := c) (i := n) (k := M c 5 n) (m := M c 7 n) hN1 (fun x x0 x1 => by rw [br q x x0 x1, eNE, eNc, eDc])
        refine ⟨⟨by omega, by rw [show jal 26 7 = 14 from rfl]; omega⟩, ?_⟩
        rw [jwr_id (by omega) (by omega), en]
        refine ih (n + 1) _ (by omega) ?_
        rw [st1 ⟨hPn, eAE.mp ((jBl_ne bl).mp q)⟩]
        exact hbe.2
    exact key (M c 0 1).toNat 0 S (by omega) (by rw [← hD]; exact fun _ _ _ => rfl)
  -- the things
  have things : ∀ L, isM L (lsN F A (M a 0 1)) → ∀ v, 0 ≤ v → v ≤ M c 0 0 → ∀ N, wLf M N c v → jWP 3 174 105 [some (.inr (26, 0)), none, some (.inr (c, 0)), some (.inl L), some (.inl v), none] [] N Q := by
    intro L hLs
    refine jloop (e := M c 0 0) (fun N hN => ?_) (fun v v0 v1 ih N hN => ?_)
    · have e : N c = M c := by funext y; exact hN.2.2.2.2.2.2 c y (by omega) (by omega)
      exact fX8_weaveLeft_105 ⟨by omega, fun _ => ties N L hLs hN, fun z => by rw [e] at z; exfalso; omega⟩
    · obtain ⟨s0, s1, s2, s3, s4, s5, s7⟩ := hN
      have e : N c = M c := by funext y; exact s7 c y (by omega) (by omega)
      refine fX8_weaveLeft_105 ⟨by omega, fun z => by rw [e] at z; exfalso; omega, fun _ => ⟨by omega, by omega, ⟨v0, by rw [jal_n4 (by omega)]; omega⟩, ⟨v0, by rw [show jal 14 4 = 6 from rfl]; omega⟩, ⟨v0, by rw [show jal 26 6 = 6 from rfl]; omega⟩, ?_⟩⟩
      rw [jwr_id (by omega) (by omega), e]
      refine ih _ ⟨by rw [jup_ne (by simp), jup_ne (by simp), s0], by rw [jup_ne (by simp), jup_ne (by simp), s1], by rw [jup_ne (by simp), jup_ne (by simp), s2], fun z z0 z1 => ?_, fun z z0 z1 => by rw [jup_ne (by omega), jup_ne (by omega)]; exact s4 z (by omega) z1, fun i i0 i1 => by rw [jup_ne (by omega), jup_ne (by omega)]; exact s5 i i0 i1, fun x y h h' => by rw [jup_set, jset_ne (by omega), jup_set, jset_ne (by omega)]; exact s7 x y h h'⟩
      by_cases u : z = v
      · rw [u, jup_ne (by simp), jup_eq, jup_eq]
        exact ⟨rfl, rfl⟩
      · rw [jup_ne (by omega), jup_ne (by omega), jup_ne (by omega), jup_ne (by omega)]
        exact s3 z z0 (by omega)
  -- what is lost
  have lost : ∀ i, 0 ≤ i → i ≤ M a 0 1 → ∀ L, isM L (lsN F A i) → jWP 3 174 9 [some (.inr (26, 0)), some (.inr (a, 0)), some (.inr (c, 0)), some (.inl L), some (.inl i), none] [] M1 Q := by
    have ea : M1 a = M a := by funext y; exact f1 a y (by omega)
    refine jloop (e := M a 0 1) (fun L hLs => ?_) (fun i i0 i1 ih L hLs => ?_)
    · refine fX8_weaveLeft_9 ⟨by omega, fun _ => ⟨by omega, by omega, jcq (c_empty (g := 14) (by omega) _) (by decide) ?_⟩, fun z => by rw [ea] at z; exfalso; omega⟩
      rintro r2 M2 ⟨e0, e1, e2, e4, f2⟩
      have ec : M2 c = M c := by funext y; rw [f2 c y (by omega), f1 c y (by omega)]
      have ec1 : M1 c = M c := by funext y; rw [f1 c y (by omega)]
      refine ⟨by omega, by omega, things L hLs 0 (by omega) (by omega) _ ⟨by rw [jup_ne (by simp), e0, ec1], by rw [jup_ne (by simp), e1], by rw [jup_eq, ec], fun z z0 z1 => by omega, fun z z0 z1 => by rw [jup_ne (by simp), f2 26 6 (by simp)]; exact z6 z z0 z1, fun i i0 i1 => by rw [jup_ne (by simp), f2 26 7 (by simp)]; exact z7 i i0 i1, fun x y h h' => by rw [jup_set, jset_ne (by omega), f2 x y (by omega), f1 x y h']⟩⟩
    · obtain ⟨a1, a2, a3⟩ := hA i i0 i1
      have eF : M1 26 5 i = F i := by rw [f1 26 5 (by simp)]; exact hF i i0 i1
      have eA : M1 20 7 i = A i := by rw [f1 20 7 (by simp)]; exact a1
      have no : ¬ (F i = -1 ∧ ¬ A i = -1) → jWP 3 174 48 [some (.inr (26, 0)), some (.inr (a, 0)), some (.inr (c, 0)), some (.inl L), some (.inl i), none] [.inl 0] M1 Q := fun h => fX8_weaveLeft_48 ⟨fun _ => by
        rw [jwr_id (by omega) (by omega)]
        refine ih _ ((hLs.or isM_0).congr (fun j j0 j1 => ⟨fun q => ?_, fun q => ?_⟩))
        · rcases q with ⟨k, k0, k1, k2⟩ | q
          · exact ⟨k, k0, by omega, k2⟩
          · exact q.elim
        · obtain ⟨k, k0, k1, k2, k3, k4⟩ := q
          by_cases u : k = i
          · rw [u] at k2 k3; exact absurd ⟨k2, k3⟩ h
          · exact Or.inl ⟨k, k0, by omega, k2, k3, k4⟩, fun z => absurd rfl z⟩
      refine fX8_weaveLeft_9 ⟨by omega, fun z => by rw [ea] at z; exfalso; omega, fun _ => ⟨⟨i0, by rw [show jal 26 5 = 14 from rfl]; omega⟩, ?_⟩⟩
      rw [eF, eA]
      refine ⟨fun z => no (fun h => z h.1), fun z => ⟨⟨i0, by rw [show jal 20 7 = 14 from rfl]; omega⟩, fun z2 => no (fun h => h.2 z2), fun z2 => fX8_weaveLeft_48 ⟨fun w => absurd w (by decide), fun _ => ⟨⟨i0, by rw [show jal 20 7 = 14 from rfl]; omega⟩, ?_⟩⟩⟩⟩
      rw [jwr_id (by omega) (by omega), eA]
      refine ih _ ((hLs.or (isM_bit (k := A i) (by omega) (by omega))).congr (fun j j0 j1 => ⟨fun q => ?_, fun q => ?_⟩))
      · rcases q with ⟨k, k0, k1, k2⟩ | q
        · exact ⟨k, k0, by omega, k2⟩
        · exact ⟨i, i0, by omega, z, z2, q.symm⟩
      · obtain ⟨k, k0, k1, k2, k3, k4⟩ := q
        by_cases u : k = i
        · exact Or.inr (by rw [← k4, u])
        · exact Or.inl ⟨k, k0, by omega, k2, k3, k4⟩
  refine lost 0 (by omega) (by omega) 0 (isM_0.congr (fun j j0 j1 => ⟨fun q => q.elim, fun ⟨k, k0, k1, _⟩ => by omega⟩))
