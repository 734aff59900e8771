/-! the reference: worth -/
theorem m_worth {C M C' : jM} {a b l d r0 : Int} (hI : Inv C) (hR : rel C M) (hd : -2147483648 ≤ d ∧ d ≤ 2147483647) (hs : s_worth C a b l d r0 C') : jCallP 4 87 [.inr (28, 0), .inl a, .inl b, .inl l, .inl d] M (fun r M' => r = r0 ∧ fS M M') := by
  refine jstart (by decide) rfl (fX10_worth_0 ?_)
  refine jc (m_isTale M a) (by decide) ⟨fun q => ⟨(jif_n hs (fun h => jite_eq.mp q h.1)).1.symm, fS_r M⟩, fun q => ?_⟩
  have ha := jite_ne.mp q
  refine jc (m_isTale M b) (by decide) ⟨fun q => ?_, fun q => ⟨(jif_n hs (fun h => jite_eq.mp q h.2)).1.symm, fS_r M⟩⟩
  have hb := jite_ne.mp q
  have hs := jif_y hs ⟨ha, hb⟩
  have hm4 : M 28 0 4 = C 18 0 8 := hR.2.2.2.2.1
  have htm := hI.tm
  have hG := hI.gd (a := a) (b := b) ⟨ha.1, by omega⟩ ⟨hb.1, by omega⟩
  have hMR := hR.mR (a := a) (b := b) ⟨ha.1, by omega⟩ ⟨hb.1, by omega⟩
  have na1 := hG.2.1.1.2.1.1
  have nb1 := hG.2.2.1.1.2.1.1
  have b6a : 0 ≤ a ∧ a < jal 28 6 := by rw [jal_28_6]; omega
  have b6b : 0 ≤ b ∧ b < jal 28 6 := by rw [jal_28_6]; omega
  generalize hQ : (fun (r : Int) (M' : jM) => r = r0 ∧ fS M M') = Q
  have fin : ∀ N r, fS M N → r = r0 → Q r N := fun N r hf e => by rw [← hQ]; exact ⟨e, hf⟩
  have k119b : -2 = r0 → ∀ v N, fS M N → jWP 4 87 119 [some (.inr (28, 0)), some (.inl a), some (.inl b), some (.inl l), none, some (.inl v), some (.inl 0), none] [] N Q := fun h v N hf => fX10_worth_119 ⟨fun _ => fin N _ hf h, fun z => absurd rfl z⟩
  have bad : -2 = r0 → ∀ v x N, fS M N → jWP 4 87 49 [some (.inr (28, 0)), some (.inl a), some (.inl b), some (.inl l), none, some (.inl v), some (.inl 0), some (.inl x)] [] N Q := fun h v x N hf => fX10_worth_49 ⟨fun _ => k119b h v N hf, fun _ => ⟨fun _ => k119b h v N hf, fun z => absurd rfl z⟩⟩
  refine jc (m_isLevel M l) (by decide) ⟨fun q => ⟨b6a, bad (jif_n hs (fun h => jite_eq.mp q h)).1.symm _ _ M (fS_r M)⟩, fun q => ?_⟩
  have hl := jite_ne.mp q
  obtain ⟨hs1, hs2⟩ := (jif_y hs hl).1
  generalize hT : (C a 0 0).toNat = T at hs1 hs2
  replace hs2 := fun (_ : Unit) => hs2
  refine ⟨fun z => ⟨b6a, bad (hs2 () (fun ⟨q, q1, q2⟩ => ?_)).symm _ _ M (fS_r M)⟩, fun hd0 => ⟨b6a, ?_⟩⟩
  · have := num_lt10 (rw1_9 nb1.2 q1.1) T
    omega
  -- the digits, from behind
  have key : ∀ (k : Nat) (left : Int) (N : jM) (R : Int → Int), k ≤ T → 0 ≤ left → left ≤ d → (∀ q, rw1 C a b q → num q T = d → left = num q k ∧ ∀ c : Int, k ≤ c → c < T → q c = R c) → (∀ f : Int → Int, (∀ c, f c < 9) → (∀ c : Int, k ≤ c → c < T → f c = R c) → num f T - d = (num f k - left) * 10 ^ (T - k)) → (∀ c, R c = -1 ∨ ((k : Int) ≤ c ∧ c < T ∧ 0 ≤ R c ∧ R c < C b 0 0)) → (∀ c : Int, k ≤ c → c < T → N 28 11 c = nd (R c)) → (∀ x y, ¬ (x = 28 ∧ y = 11) → N x y = M x y) → jWP 4 87 49 [some (.inr (28, 0)), some (.inl a), some (.inl b), some (.inl l), none, some (.inl left), some (.inl 1), some (.inl ((k : Int) - 1))] [] N Q := by
    intro k
    induction k with
    | zero =>
      intro left N R hk l0 l1 h1 h2 hw hrow f
      have hf : fL M N := fL_11 f
      have hwR : rw1 C a b R := fun c => by
        rcases hw c with e | e
        · exact Or.inl e
        · right; omega
      have hrow' : mRow C N a R := fun x x0 x1 => hrow x (by omega) (by omega)
      refine fX10_worth_49 ⟨fun _ => fX10_worth_119 ⟨fun z => absurd z (by decide), fun _ => ⟨fun z => fin N _ hf.s (hs2 () (fun ⟨q, q1, q2⟩ => ?_)).symm, fun z => ?_⟩⟩, fun z => by exfalso; omega⟩
      · have := (h1 q q1.1 q2).1
        rw [show num q 0 = 0 from rfl] at this
        exact z this
      · refine jcq (m_isPairing hG (hf.mR hMR).2.1 hwR hrow') (by decide) ?_
        rintro r1 N1 ⟨bl, rfl⟩
        refine ⟨fun z2 => ?_, fun z2 => fin N1 _ hf.s (hs2 () (fun ⟨q, q1, q2⟩ => ?_)).symm⟩
        · have hv := (jBl_ne bl).mp z2
          have hn := h2 R (rw1_9 nb1.2 hwR) (fun _ _ _ => rfl)
          rw [show num R 0 = 0 from rfl, z, Int.sub_self, Int.zero_mul] at hn
          have hr := hs1 R hv (by omega)
          have hwe := m_weigh (R := R) (tm := C 18 0 8) hG (hf.mR hMR) hwR hrow' hl
          rw [f 28 0 (by simp), hm4]
          refine ⟨fun z3 => ?_, fun z3 => ?_⟩
          · rw [show C 18 0 8 = 0 by omega] at hwe hr
            refine jcq hwe (by decide) ?_
            rintro r2 N2 ⟨e2, -, -, f2⟩
            exact fin N2 _ (hf.tr f2.l).s (by rw [e2, hr])
          · rw [z3] at hwe hr
            refine jcq hwe (by decide) ?_
            rintro r2 N2 ⟨e2, -, -, f2⟩
            exact fin N2 _ (hf.tr f2.l).s (by rw [e2, hr])
        · have e : q = R := by
            funext c
            by_cases u : 0 ≤ c ∧ c < T
            · exact (h1 q q1.1 q2).2 c u.1 u.2
            · have u1 := q1.1 c
              have u2 := hwR c
              omega
          exact (jBl_eq bl).mp z2 (by rw [← e]; exact q1)
    | succ x ih =>
      intro left N R hk l0 l1 h1 h2 hw hrow f
      have ex : ((x + 1 : Nat) : Int) - 1 = x := by omega
      rw [ex]
      have b11 : 0 ≤ (x : Int) ∧ (x : Int) < jal 28 11 := by rw [jal_28_11]; omega
      have ed : Int.tdiv left 10 = left / 10 := Int.tdiv_eq_ediv_of_nonneg l0
      refine fX10_worth_49 ⟨fun z => by exfalso; omega, fun _ => ⟨fun z => absurd z (by decide), fun _ => ?_⟩⟩
      rw [ed, jwr_id (z := left - left / 10 * 10) (by omega) (by omega), jwr_id (z := left / 10) (by omega) (by omega), jwr_id (z := (x : Int) + -1) (by omega) (by omega), jup_eq]
      generalize hv : left - left / 10 * 10 = v
      have vb : 0 ≤ v ∧ v ≤ 9 ∧ left = 10 * (left / 10) + v := by omega
      have f' : ∀ y z, ¬ (y = 28 ∧ z = 11) → jup N 28 11 x v y z = M y z := fun y z q => by rw [jup_set, jset_ne q, f y z q]
      have s : ∀ q : Int → Int, num q (x + 1) = 10 * num q x + cod9 (q x) := fun q => rfl
      -- the digit fits
      have ok : ∀ u : Int, cod9 u = v → (u = -1 ∨ (0 ≤ u ∧ u < C b 0 0)) → (∀ q, rw1 C a b q → num q T = d → q x = u) → jWP 4 87 49 [some (.inr (28, 0)), some (.inl a), some (.inl b), some (.inl l), none, some (.inl (left / 10)), some (.inl 1), some (.inl ((x : Int) + -1))] [] (jup N 28 11 x v) Q := by
        intro u hu hu2 hq
        refine ih (left / 10) _ (jfu R x u) (by omega) (by omega) (by omega) (fun q q1 q2 => ?_) (fun g g1 g2 => ?_) (fun c => ?_) (fun c c0 c1 => ?_) f'
        · obtain ⟨e1, e2⟩ := h1 q q1 q2
          rw [s q] at e1
          have e3 := hq q q1 q2
          rw [e3, hu] at e1
          refine ⟨by omega, fun c c0 c1 => ?_⟩
          by_cases w : c = x
          · rw [w, jfu_eq]; exact e3
          · rw [jfu_ne w]; exact e2 c (by omega) c1
        · have e1 := h2 g g1 (fun c c0 c1 => by have := g2 c (by omega) c1; rwa [jfu_ne (by omega)] at this)
          have e2 := g2 x (by omega) (by omega)
          rw [jfu_eq] at e2
          rw [e1, s g, e2, hu, show T - x = (T - (x + 1)) + 1 by omega, Int.pow_succ, show 10 * num g x + v - left = (num g x - left / 10) * 10 by omega, Int.mul_assoc, Int.mul_comm 10]
        · by_cases w : c = x
          · rw [w, jfu_eq]; omega
          · rw [jfu_ne w]
            have := hw c
            omega
        · by_cases w : c = x
          · rw [w, jup_eq, jfu_eq, nd_cod, hu]
          · rw [jup_ne (by omega), jfu_ne w]; exact hrow c (by omega) c1
      have dig : ∀ q, rw1 C a b q → num q T = d → cod9 (q x) = v := fun q q1 q2 => by
        have e1 := (h1 q q1 q2).1
        rw [s q] at e1
        have := cod9_bd (rw1_9 nb1.2 q1 x)
        omega
      refine ⟨by decide, b11, by decide, b11, fun z => ?_, fun z => ⟨b11, b6b, ?_⟩⟩
      · rw [z] at ok ⊢
        refine ok (-1) rfl (Or.inl rfl) (fun q q1 q2 => ?_)
        have := dig q q1 q2
        have := q1 x
        unfold cod9 at *
        split at * <;> omega
      · rw [f' 28 6 (by simp), hMR.2.2.1]
        refine ⟨fun z2 => bad (hs2 () (fun ⟨q, q1, q2⟩ => ?_)).symm _ _ _ (fL_11 f').s, fun z2 => ok v (by unfold cod9; rw [if_neg (by omega)]) (Or.inr ⟨vb.1, z2⟩) (fun q q1 q2 => ?_)⟩
        · have d1 := dig q q1.1 q2
          have d2 := q1.1 x
          unfold cod9 at d1
          split at d1 <;> omega
        · have d1 := dig q q1 q2
          unfold cod9 at d1
          split at d1 <;> omega
  have h := key T d M (fun _ => -1) (Nat.le_refl _) hd0 (Int.le_refl _) (fun q q1 q2 => ⟨q2.symm, fun c c0 c1 => by omega⟩) (fun g _ _ => by rw [Nat.sub_self, Int.pow_zero, Int.mul_one]) (fun c => Or.inl rfl) (fun c c0 c1 => by omega) (fun _ _ _ => rfl)
  rw [hMR.2.1.1, jwr_id (by omega) (by omega), show C a 0 0 - 1 = (T : Int) - 1 by omega]
  exact h
