/-! the reference: leftOut, likes -/
theorem m_leftOut {C M C' : jM} {a b r0 : Int} (hI : Inv C) (hR : rel C M) (hs : s_leftOut C a b r0 C') : jCallP 5 109 [.inr (28, 0), .inl a, .inl b] M (fun r M' => r = r0 ∧ fS M M') := by
  refine jstart (by decide) rfl (fX10_leftOut_0 ?_)
  refine jc (m_isTale M a) (by decide) ⟨fun q => ⟨(jif_n hs (fun h => jite_eq.mp q h.1)).1.symm, fS_r M⟩, fun q => ?_⟩
  have ha := jite_ne.mp q
  refine jc (m_isTale M b) (by decide) ⟨fun q => ?_, fun q => ⟨(jif_n hs (fun h => jite_eq.mp q h.2)).1.symm, fS_r M⟩⟩
  have hb := jite_ne.mp q
  obtain ⟨⟨R1, hB, er⟩, -⟩ := jif_y hs ⟨ha, hb⟩
  have hm4 : M 28 0 4 = C 18 0 8 := hR.2.2.2.2.1
  have htm := hI.tm
  have hNa := hI.N ha.1 (by omega)
  have na2 := hNa.2
  have hg := hI.gd (a := a) (b := b) ⟨ha.1, by omega⟩ ⟨hb.1, by omega⟩
  have hl := m_likeness (M := M) (lv := 0) (tm := C 18 0 8) hg (hR.mR ⟨ha.1, by omega⟩ ⟨hb.1, by omega⟩) (by omega)
  have fin : ∀ r1 M1, (∃ R, best C a b 0 (C 18 0 8) 0 R ∧ r1 = wth C a b 0 0 (C 18 0 8) R ∧ mRow C M1 a R ∧ mAns C M1 b (ans C a b 0 0 (C 18 0 8) R) (C a 0 1) ∧ M1 28 0 15 = prs C a R ∧ (∀ q, vld C a b q → wth C a b 0 1 (C 18 0 8) q ≤ M1 28 0 16) ∧ (∃ q, vld C a b q ∧ wth C a b 0 1 (C 18 0 8) q = M1 28 0 16) ∧ fL M M1) → (0 ≤ a ∧ a < jal 28 9) ∧ jwr (M1 28 9 a - M1 28 0 16) = r0 ∧ fS M M1 := by
    rintro r1 M1 ⟨R, -, -, -, -, -, h6, ⟨q, q1, q2⟩, f⟩
    have e1 := h6 R1 hB.1
    have e2 := (hB.2 q q1).1
    unfold btr at e2
    have wb := wth_bd (C := C) (a := a) (b := b) (lv := 0) (wg := 1) (tm := C 18 0 8) hNa hg.2.1.2.2.1 q
    refine ⟨by rw [jal_28_9]; omega, ?_, f.s⟩
    rw [f.2.1 9 (by decide), (hR.2.1 a ha.1 (by omega)).2.1, jwr_id (by omega) (by omega)]
    omega
  rw [hm4]
  refine ⟨fun z => ?_, fun z => ?_⟩
  · rw [show C 18 0 8 = 0 by omega] at hl fin
    exact jcq hl (by decide) (fun r M1 h => fin r M1 h)
  · rw [z] at hl fin
    exact jcq hl (by decide) (fun r M1 h => fin r M1 h)
theorem pow_le6 {T : Nat} (h : T ≤ 6) : (10 : Int) ^ T ≤ 1000000 := by
  have : T = 0 ∨ T = 1 ∨ T = 2 ∨ T = 3 ∨ T = 4 ∨ T = 5 ∨ T = 6 := by omega
  rcases this with e | e | e | e | e | e | e <;> rw [e] <;> decide
theorem num_lt10 {q : Int → Int} (h : ∀ x, q x < 9) (n : Nat) : 0 ≤ num q n ∧ num q n < 10 ^ n := by
  have b := num_bd h 0 n
  rw [Nat.zero_add, show num q 0 = 0 from rfl] at b
  omega
theorem nd_cod (v : Int) : nd v = cod9 v := rfl
theorem m_digits {C M : jM} {a b : Int} {R : Int → Int} (hG : gd C a b) (hM : rT C M a) (hw : rw1 C a b R) (hR : mRow C M a R) : jCallP 0 85 [.inr (28, 0), .inl a] M (fun r M' => r = num R (C a 0 0).toNat ∧ M' = M) := by
  obtain ⟨-, hGa, hGb, ha, hb⟩ := hG
  have na1 := hGa.1.2.1.1
  have nb1 := hGb.1.2.1.1
  have h9 := rw1_9 nb1.2 hw
  refine jstart (by decide) rfl (fX10_digits_0 ?_)
  have key : ∀ j n : Nat, ((n + j : Nat) : Int) = C a 0 0 → jWP 0 85 4 [some (.inr (28, 0)), some (.inl a), some (.inl (num R n)), some (.inl (n : Int))] [] M (fun r M' => r = num R (C a 0 0).toNat ∧ M' = M) := by
    intro j
    induction j with
    | zero =>
      intro n hn
      refine fX10_digits_4 ⟨by rw [jal_28_6]; omega, fun _ => ⟨?_, rfl⟩, fun z => by rw [hM.1] at z; exfalso; omega⟩
      rw [show (C a 0 0).toNat = n by omega]
    | succ j ih =>
      intro n hn
      have hi := ih (n + 1) (by omega)
      have en : (n : Int) + 1 = ((n + 1 : Nat) : Int) := by omega
      have b1 := num_lt10 h9 n
      have b2 := pow_le6 (T := n) (by omega)
      have c9 := cod9_bd (h9 n)
      refine fX10_digits_4 ⟨by rw [jal_28_6]; omega, fun z => by rw [hM.1] at z; exfalso; omega, fun _ => ⟨⟨by omega, by rw [jal_28_11]; omega⟩, ?_⟩⟩
      rw [hR n (by omega) (by omega), nd_cod, jwr_id (z := 10 * num R n) (by omega) (by omega), jwr_id (z := 10 * num R n + cod9 (R n)) (by omega) (by omega), jwr_id (by omega) (by omega), en]
      exact hi
  exact key (C a 0 0).toNat 0 (by omega)
theorem cP_flat {U : Int → Prop} {m n : Nat} (h : m ≤ n) (hn : ∀ j : Int, m ≤ j → j < n → ¬ U j) : cP U n = cP U m := by
  rw [cP_cut n h, cP_z n (fun j j0 j1 q => hn j q.1 j1 q.2), Int.add_zero]
theorem m_likes {C M C' : jM} {a b l i r0 : Int} (hI : Inv C) (hR : rel C M) (hs : s_likes C a b l i r0 C') : jCallP 5 86 [.inr (28, 0), .inl a, .inl b, .inl l, .inl i] M (fun r M' => r = r0 ∧ fS M M') := by
  refine jstart (by decide) rfl (fX10_likes_0 ?_)
  refine jc (m_isTale M a) (by decide) ⟨fun q => ⟨(jif_n hs (fun h => jite_eq.mp q h.1)).1.symm, fS_r M⟩, fun q => ?_⟩
  have ha := jite_ne.mp q
  refine jc (m_isTale M b) (by decide) ⟨fun q => ?_, fun q => ⟨(jif_n hs (fun h => jite_eq.mp q h.2)).1.symm, fS_r M⟩⟩
  have hb := jite_ne.mp q
  have hs := jif_y hs ⟨ha, hb⟩
  refine jc (m_isLevel M l) (by decide) ⟨fun q => ?_, fun q => ⟨(jif_n hs (fun h => jite_eq.mp q h)).1.symm, fS_r M⟩⟩
  have hl := jite_ne.mp q
  have hs := (jif_y hs hl).1
  have hm4 : M 28 0 4 = C 18 0 8 := hR.2.2.2.2.1
  have htm := hI.tm
  have hG := hI.gd (a := a) (b := b) ⟨ha.1, by omega⟩ ⟨hb.1, by omega⟩
  have hMR := hR.mR (a := a) (b := b) ⟨ha.1, by omega⟩ ⟨hb.1, by omega⟩
  have na1 := hG.2.1.1.2.1.1
  have nb1 := hG.2.2.1.1.2.1.1
  generalize hQ : (fun (r : Int) (M' : jM) => r = r0 ∧ fS M M') = Q
  generalize hT : (C a 0 0).toNat = T
  have T6 := pow_le6 (T := T) (by omega)
  have go : jWP 5 86 43 [some (.inr (28, 0)), some (.inl a), some (.inl b), some (.inl l), some (.inl i), none, none, none, none] [.inl (C 18 0 8), .inl l, .inl b, .inl a, .inr (28, 0)] M Q := by
    refine fX10_likes_43 (jcq (m_likeness (lv := l) (tm := C 18 0 8) hG hMR hl) (by decide) ?_)
    rintro r1 M1 ⟨B, hB, e1, -, -, e15, -, -, f1⟩
    have hs := hs B hB
    unfold hits at hs
    rw [hT] at hs
    generalize hW : wth C a b l 0 (C 18 0 8) B = W at e1 hs
    generalize hP : prs C a B = P at e15 hs
    have hH : ∀ d, hitN C a b l 0 (C 18 0 8) W P d ↔ ∃ q, vld C a b q ∧ wth C a b l 0 (C 18 0 8) q = W ∧ prs C a q = P ∧ num q T = d := fun d => by unfold hitN; rw [hT]
    generalize hHH : hitN C a b l 0 (C 18 0 8) W P = H at hs hH
    have hsU := fun (_ : Unit) => hs
    clear hs
    refine jcq (m_firstRow (C := C) (a := a) (b := b) hG.2.2.2.2 nb1.1 na1.2 (f1.mR hMR).2.2) (by decide) ?_
    rintro r2 M2 ⟨hrow, f2⟩
    rw [e1, e15]
    have fin : ∀ N r, fL M N → r = r0 → Q r N := fun N r hf e => by rw [← hQ]; exact ⟨e, hf.s⟩
    have out : ∀ N, fL M N → (i < 0 ∨ cP H ((10 : Int) ^ T).toNat ≤ i) → jWP 5 86 66 [some (.inr (28, 0)), some (.inl a), some (.inl b), some (.inl l), some (.inl i), some (.inl W), some (.inl P), some (.inl (cP H ((10 : Int) ^ T).toNat)), some (.inl 0)] [] N Q := fun N hf hi =>
      fX10_likes_66 ⟨fun _ => ⟨fun z => fin N _ hf (by
        rcases hi with h | h
        · exact ((hsU ()).2.1 (by omega)).symm
        · by_cases u : 0 ≤ i
          · exact (((hsU ()).2.2 u).1 h).symm
          · exact ((hsU ()).2.1 (by omega)).symm), fun z => fin N _ hf ((hsU ()).1 z).symm⟩, fun z => absurd rfl z⟩
    have rows : ∀ (fuel : Nat) (R : Int → Int) (N : jM), (10 : Int) ^ T - num R T ≤ fuel → rw1 C a b R → mRow C N a R → fL M N → (i < 0 ∨ cP H (num R T).toNat ≤ i) → jWP 5 86 66 [some (.inr (28, 0)), some (.inl a), some (.inl b), some (.inl l), some (.inl i), some (.inl W), some (.inl P), some (.inl (cP H (num R T).toNat)), some (.inl 1)] [] N Q := by
      intro fuel
      induction fuel with
      | zero =>
        intro R N h0 hw hRw hf hi
        have := num_lt10 (rw1_9 nb1.2 hw) T
        omega
      | succ fuel ih =>
        intro R N h0 hw hRw hf hi
        have nR := num_lt10 (rw1_9 nb1.2 hw) T
        have cb := cP_bd H (num R T).toNat
        have same : ∀ q, vld C a b q → num q T = num R T → q = R := fun q hq e => rw1_num nb1.2 hq.1 hw (by rw [hT]; exact e)
        have c1 : cP H ((num R T).toNat + 1) = cP H (num R T).toNat + @ite _ (H (num R T)) (Classical.propDecidable _) 1 0 := by
          rw [cP_succ, Int.toNat_of_nonneg nR.1]
        have cont : ∀ N' n', mRow C N' a R → fL M N' → n' = cP H ((num R T).toNat + 1) → (i < 0 ∨ n' ≤ i) → jCall 5 78 [.inr (28, 0), .inl a, .inl b] N' (fun r N2 => jWP 5 86 66 [some (.inr (28, 0)), some (.inl a), some (.inl b), some (.inl l), some (.inl i), some (.inl W), some (.inl P), some (.inl n'), some (.inl r)] [] N2 Q) := by
          intro N' n' hR' hf' hn' hi'
          refine jcq (m_nextRow hG (hf'.mR hMR) hw hR') (by decide) ?_
          rintro r N2 ⟨h, f2⟩
          have f2' : fL M N2 := hf'.tr (fL_11 f2)
          rcases h with ⟨rfl, R', ⟨n1, n2, n3⟩, hR2⟩ | ⟨rfl, h⟩
          · rw [hT] at n2 n3
            have fl : cP H (num R' T).toNat = cP H ((num R T).toNat + 1) := cP_flat (by omega) (fun j j0 j1 hj => by
              obtain ⟨q, q1, -, -, q4⟩ := (hH j).mp hj
              have := n3 q q1.1 (by omega)
              omega)
            rw [← fl] at hn'
            rw [hn'] at hi' ⊢
            exact ih R' N2 (by omega) n1 hR2 f2' hi'
          · rw [hT] at h
            have fl : cP H ((10 : Int) ^ T).toNat = cP H ((num R T).toNat + 1) := cP_flat (by omega) (fun j j0 j1 hj => by
              obtain ⟨q, q1, -, -, q4⟩ := (hH j).mp hj
              have := h q q1.1
              omega)
            rw [← fl] at hn'
            rw [hn'] at hi' ⊢
            exact out N2 f2' hi'
        have skip : ¬ H (num R T) → ∀ N', mRow C N' a R → fL M N' → jCall 5 78 [.inr (28, 0), .inl a, .inl b] N' (fun r N2 => jWP 5 86 66 [some (.inr (28, 0)), some (.inl a), some (.inl b), some (.inl l), some (.inl i), some (.inl W), some (.inl P), some (.inl (cP H (num R T).toNat)), some (.inl r)] [] N2 Q) := fun h N' h1 h2 => cont N' _ h1 h2 (by rw [c1, if_neg h, Int.add_zero]) hi
        refine fX10_likes_66 ⟨fun z => absurd z (by decide), fun _ => jcq (m_isPairing hG (hf.mR hMR).2.1 hw hRw) (by decide) ?_⟩
        rintro q1 N1 ⟨bl, rfl⟩
        refine ⟨fun z => skip (fun h => ?_) N1 hRw hf, fun z => ?_⟩
        · obtain ⟨q, q1, -, -, q4⟩ := (hH _).mp h
          exact (jBl_eq bl).mp z (by rw [← same q q1 q4]; exact q1)
        have hv := (jBl_ne bl).mp z
        refine jc (m_pairsOfRow hG (hf.mR hMR).2.1 hw hRw) (by decide) ⟨fun z2 => skip (fun h => ?_) N1 hRw hf, fun z2 => ?_⟩
        · obtain ⟨q, q1, -, q3, q4⟩ := (hH _).mp h
          exact z2 (by rw [← same q q1 q4]; exact q3)
        have k106 : jWP 5 86 106 [some (.inr (28, 0)), some (.inl a), some (.inl b), some (.inl l), some (.inl i), some (.inl W), some (.inl P), some (.inl (cP H (num R T).toNat)), none] [.inl (C 18 0 8), .inl l, .inl b, .inl a, .inr (28, 0)] N1 Q := by
          refine fX10_likes_106 (jcq (m_weigh (R := R) (tm := C 18 0 8) hG (hf.mR hMR) hw hRw hl) (by decide) ?_)
          rintro q3 N3 ⟨e3, -, -, f3⟩
          have f3' : fL M N3 := hf.tr f3.l
          have hR3 : mRow C N3 a R := fun x x0 x1 => by rw [f3.2.1 11 (by decide)]; exact hRw x x0 x1
          refine ⟨fun z3 => skip (fun h => ?_) N3 hR3 f3', fun z3 => ?_⟩
          · obtain ⟨q, q1, q2, q3, q4⟩ := (hH _).mp h
            exact z3 (by rw [e3, ← same q q1 q4]; exact q2)
          have hit : H (num R T) := (hH _).mpr ⟨R, hv, by rw [← e3]; exact z3, z2, rfl⟩
          rw [if_pos hit] at c1
          refine ⟨fun z4 => ?_, fun z4 => jc (m_digits hG (f3'.mR hMR).2.1 hw hR3) (by decide) (fin N3 _ f3' ?_)⟩
          · rw [jwr_id (by omega) (by omega)]
            exact cont N3 _ hR3 f3' c1.symm (by omega)
          · have mono := cP_mono' H ((num R T).toNat + 1) ((10 : Int) ^ T).toNat (by omega)
            have i0 : 0 ≤ i := by omega
            have i1 : i < cP H ((10 : Int) ^ T).toNat := by omega
            have hex := ((hsU ()).2.2 i0).2 i1
            clear hsU
            obtain ⟨R', v', w', p', h', e'⟩ := hex
            rw [hT, e']
            have nR' := num_lt10 (rw1_9 nb1.2 v'.1) T
            have hit' : H (num R' T) := (hH _).mpr ⟨R', v', w', p', rfl⟩
            have c1' : cP H ((num R' T).toNat + 1) = cP H (num R' T).toNat + 1 := by
              rw [cP_succ, Int.toNat_of_nonneg nR'.1, if_pos hit']
            by_cases u : num R T < num R' T
            · have := cP_mono' H ((num R T).toNat + 1) (num R' T).toNat (by omega)
              omega
            · by_cases u2 : num R' T < num R T
              · have := cP_mono' H ((num R' T).toNat + 1) (num R T).toNat (by omega)
                omega
              · omega
        rw [hf.2.2 4 (by decide), hm4]
        exact ⟨fun z3 => by rw [show C 18 0 8 = 0 by omega] at k106; exact k106, fun z3 => by rw [z3] at k106; exact k106⟩
    have z0 : cP H (num (row0 C a b) T).toNat = 0 := cP_z _ (fun j j0 j1 hj => by
      obtain ⟨q, q1, -, -, q4⟩ := (hH j).mp hj
      have := row0_min nb1.2 q1.1
      rw [hT] at this
      have := num_lt10 (rw1_9 nb1.2 (row0_rw C a b)) T
      omega)
    have := rows ((10 : Int) ^ T - num (row0 C a b) T).toNat (row0 C a b) M2 (by omega) (row0_rw C a b) hrow (f1.tr (fL_11 f2)) (by rw [z0]; omega)
    rw [z0] at this
    exact this
  rw [hm4]
  exact ⟨fun z => by rw [show C 18 0 8 = 0 by omega] at go; exact go, fun z => by rw [z] at go; exact go⟩
