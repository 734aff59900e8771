theorem m_same {C M C' : jM} {a b r0 : Int} (hI : Inv C) (hR : rel C M) (hs : s_same C a b r0 C') : jCallP 4 88 [.inr (28, 0), .inl a, .inl b] M (fun r M' => r = r0 ∧ fS M M') := by
  refine jstart (by decide) rfl (fX10_same_0 ?_)
  refine jc (m_isTale M a) (by decide) ⟨fun q => ⟨(jif_n hs (fun h => jite_eq.mp q h.1)).1.symm, fS_r M⟩, fun q => ?_⟩
  have ha := jite_ne.mp q
  refine jc (m_isTale M b) (by decide) ⟨fun q => ?_, fun q => ⟨(jif_n hs (fun h => jite_eq.mp q h.2)).1.symm, fS_r M⟩⟩
  have hb := jite_ne.mp q
  have hs := (jif_y hs ⟨ha, hb⟩).1
  have hG := hI.gd (a := a) (b := b) ⟨ha.1, by omega⟩ ⟨hb.1, by omega⟩
  have hMR := hR.mR (a := a) (b := b) ⟨ha.1, by omega⟩ ⟨hb.1, by omega⟩
  have hU : jUq C b := hI.2.2.1 b hb.1 (by omega)
  have na1 := hG.2.1.1.2.1.1
  have na2 := hG.2.1.1.2.1.2
  have nb1 := hG.2.2.1.1.2.1.1
  have nb2 := hG.2.2.1.1.2.1.2
  have b6a : 0 ≤ a ∧ a < jal 28 6 := by rw [jal_28_6]; omega
  have b6b : 0 ≤ b ∧ b < jal 28 6 := by rw [jal_28_6]; omega
  have b9a : 0 ≤ a ∧ a < jal 28 9 := by rw [jal_28_9]; omega
  have b9b : 0 ≤ b ∧ b < jal 28 9 := by rw [jal_28_9]; omega
  rw [hMR.2.1.1, hMR.2.2.1, hMR.2.1.2.1, hMR.2.2.2.1]
  refine ⟨b6a, b6b, fun z => ⟨(jif_n hs (fun h => z h.1.1)).symm, fS_r M⟩, fun z => ⟨b9a, b9b, fun z2 => ?_, fun z2 => ⟨(jif_n hs (fun h => z2 h.1.2)).symm, fS_r M⟩⟩⟩
  have yes : ∀ q, vld C a b q → smOk C a b q → 1 = r0 := fun q hv hk => (jif_y hs ⟨⟨z, z2⟩, q, hv, (same_iff hG hU hv).mpr hk⟩).symm
  have none' : (∀ q, vld C a b q → ¬ smOk C a b q) → 0 = r0 := fun h => (jif_n hs (fun ⟨_, q, hv, hk⟩ => h q hv ((same_iff hG hU hv).mp hk))).symm
  clear hs
  generalize hQ : (fun (r : Int) (M' : jM) => r = r0 ∧ fS M M') = Q
  generalize hT : (C a 0 0).toNat = T
  have fin : ∀ N r, fL M N → r = r0 → Q r N := fun N r hf e => by rw [← hQ]; exact ⟨e, hf.s⟩
  have out : ∀ N, fL M N → (∀ q, vld C a b q → ¬ smOk C a b q) → jWP 4 88 56 [some (.inr (28, 0)), some (.inl a), some (.inl b), some (.inl 0), none, none] [] N Q := fun N hf h => fX10_same_56 ⟨fun _ => fin N _ hf (none' h), fun q => absurd rfl q⟩
  have rows : ∀ (fuel : Nat) (R : Int → Int) (N : jM), (10 : Int) ^ T - num R T ≤ fuel → rw1 C a b R → mRow C N a R → fL M N → (∀ q, vld C a b q → num q T < num R T → ¬ smOk C a b q) → jWP 4 88 56 [some (.inr (28, 0)), some (.inl a), some (.inl b), some (.inl 1), none, none] [] N Q := by
    intro fuel
    induction fuel with
    | zero =>
      intro R N h0 hw hRw hf hi
      have := num_lt10 (rw1_9 nb1.2 hw) T
      omega
    | succ fuel ih =>
      intro R N h0 hw hRw hf hi
      have same : ∀ q, vld C a b q → num q T = num R T → q = R := fun q hq e => rw1_num nb1.2 hq.1 hw (by rw [hT]; exact e)
      have cont : ¬ (vld C a b R ∧ smOk C a b R) → ∀ N', mRow C N' a R → fL M N' → jCall 4 78 [.inr (28, 0), .inl a, .inl b] N' (fun r N2 => jWP 4 88 56 [some (.inr (28, 0)), some (.inl a), some (.inl b), some (.inl r), none, none] [] N2 Q) := by
        intro hno N' hR' hf'
        refine jcq (m_nextRow hG (hf'.mR hMR) hw hR') (by decide) ?_
        rintro r N2 ⟨h, f2⟩
        have f2' : fL M N2 := hf'.tr (fL_11 f2)
        have upto : ∀ q, vld C a b q → num q T ≤ num R T → ¬ smOk C a b q := fun q hq hl hk => by
          by_cases e : num q T = num R T
          · have e2 := same q hq e
            rw [e2] at hq hk
            exact hno ⟨hq, hk⟩
          · exact hi q hq (by omega) hk
        rcases h with ⟨rfl, R', ⟨n1, n2, n3⟩, hR2⟩ | ⟨rfl, h⟩
        · rw [hT] at n2 n3
          exact ih R' N2 (by omega) n1 hR2 f2' (fun q hq hl => upto q hq (n3 q hq.1 hl))
        · rw [hT] at h
          exact out N2 f2' (fun q hq => upto q hq (h q hq.1))
      refine fX10_same_56 ⟨fun z => absurd z (by decide), fun _ => jcq (m_isPairing hG (hf.mR hMR).2.1 hw hRw) (by decide) ?_⟩
      rintro q1 N1 ⟨bl, rfl⟩
      refine ⟨fun w => cont (fun h => (jBl_eq bl).mp w h.1) N1 hRw hf, fun w => jc (m_pairsOfRow hG (hf.mR hMR).2.1 hw hRw) (by decide) ⟨b6a, ?_⟩⟩
      have hv := (jBl_ne bl).mp w
      rw [(hf.mR hMR).2.1.1]
      refine ⟨fun w2 => cont (fun h => w2 h.2.1) N1 hRw hf, fun w2 => ?_⟩
      have hq := cP_full (C a 0 0).toNat (U := fun x => 0 ≤ R x) (by unfold prs at w2; omega)
      refine jcq (m_weigh (R := R) (lv := 0) (tm := 0) hG (hf.mR hMR) hw hRw (by omega)) (by decide) ?_
      rintro q3 N3 ⟨-, an, c3, f3⟩
      have f3' : fL M N3 := hf.tr f3.l
      have hM3 := f3'.mR hMR
      have hR3 : mRow C N3 a R := fun x x0 x1 => by rw [f3.2.1 11 (by decide)]; exact hRw x x0 x1
      have e1 : wth C a b 0 1 0 R = wsum C a b 1 (ans C a b 0 0 0 R) (C a 0 1).toNat := by
        unfold wth srt
        rw [ans_wg1, if_pos rfl, Int.add_zero]
      have w1 := wsum_full (C := C) (a := a) (b := b) (wg := 1) (A := ans C a b 0 0 0 R) (by decide) (C a 0 1).toNat
      -- the end of the tests
      have k241 : ∀ v, (v = 0 → ¬ smOk C a b R) → (¬ v = 0 → smOk C a b R) → jWP 4 88 241 [some (.inr (28, 0)), some (.inl a), some (.inl b), none, some (.inl v), none] [] N3 Q := fun v h1 h2 => fX10_same_241 ⟨fun q => cont (fun h => h1 q h.2) N3 hR3 f3', fun q => fin N3 _ f3' (yes R hv (h2 q))⟩
      have k178 : ∀ i, 0 ≤ i → i ≤ C a 0 1 → ∀ v, (v = 0 → ¬ smOk C a b R) → (¬ v = 0 → wth C a b 0 1 0 R = C a 0 1 ∧ (∀ x, 0 ≤ x → x < C a 0 0 → C a 4 x = C b 4 (R x)) ∧ ∀ e, 0 ≤ e → e < i → C a 7 e = C b 7 (ans C a b 0 0 0 R e)) → jWP 4 88 178 [some (.inr (28, 0)), some (.inl a), some (.inl b), none, some (.inl v), some (.inl i)] [] N3 Q := by
        refine jloop (e := C a 0 1) (fun v h1 h2 => ?_) (fun i i0 i1 ih2 v h1 h2 => ?_)
        · exact fX10_same_178 ⟨b9a, fun _ => k241 v h1 (fun q => ⟨w2, (h2 q).1, (h2 q).2.1, (h2 q).2.2⟩), fun q => by rw [hM3.2.1.2.1] at q; exfalso; omega⟩
        · refine fX10_same_178 ⟨b9a, fun q => by rw [hM3.2.1.2.1] at q; exfalso; omega, fun _ => ⟨fun q => k241 v h1 (fun q2 => absurd q q2), fun q => ?_⟩⟩
          obtain ⟨g1, g2, g3⟩ := h2 q
          have na := (w1.2.mp (by omega)) i i0 (by omega)
          obtain ⟨m1, m2, m3⟩ := an i i0 i1
          have w4 : ∀ t e, 0 ≤ t → t < 14 → 0 ≤ e → e < 14 → jwr (84 * t + 6 * e + 4) = 84 * t + 6 * e + 4 := fun t e _ _ _ _ => jwr_id (by omega) (by omega)
          refine jc (m_at N3 (t := a) (e := i) (by omega) (by omega)) (by decide) ?_
          rw [w4 a i (by omega) (by omega) (by omega) (by omega), m1, jno_ge (by omega), (hM3.2.1.2.2.2 i i0 i1).2.2.2.2.1]
          refine ⟨by rw [jal_28_10]; omega, by rw [jal_28_12]; omega, ?_⟩
          refine jc (m_at N3 (t := b) (e := ans C a b 0 0 0 R i) (by omega) (by omega)) (by decide) ?_
          rw [w4 b _ (by omega) (by omega) (by omega) (by omega), (hM3.2.2.2.2.2 _ (by omega) m3).2.2.2.2.1, jwr_id (by omega) (by omega)]
          refine ⟨by rw [jal_28_10]; omega, fun q2 => ih2 0 (fun _ hk => q2 (hk.2.2.2 i i0 i1)) (fun q3 => absurd rfl q3), fun q2 => ih2 1 (fun q3 => absurd q3 (by decide)) (fun _ => ⟨g1, g2, fun e e0 e1 => ?_⟩)⟩
          by_cases u : e = i
          · rw [u]; exact q2
          · exact g3 e e0 (by omega)
      have k114 : ∀ i, 0 ≤ i → i ≤ C a 0 0 → ∀ v, (v = 0 → ¬ smOk C a b R) → (¬ v = 0 → wth C a b 0 1 0 R = C a 0 1 ∧ ∀ x, 0 ≤ x → x < i → C a 4 x = C b 4 (R x)) → jWP 4 88 114 [some (.inr (28, 0)), some (.inl a), some (.inl b), none, some (.inl v), some (.inl i)] [] N3 Q := by
        refine jloop (e := C a 0 0) (fun v h1 h2 => ?_) (fun i i0 i1 ih2 v h1 h2 => ?_)
        · exact fX10_same_114 ⟨b6a, fun _ => k178 0 (by omega) (by omega) v h1 (fun q => ⟨(h2 q).1, (h2 q).2, fun e e0 e1 => by omega⟩), fun q => by rw [hM3.2.1.1] at q; exfalso; omega⟩
        · refine fX10_same_114 ⟨b6a, fun q => by rw [hM3.2.1.1] at q; exfalso; omega, fun _ => ?_⟩
          rw [jwr_id (z := i + 1) (by omega) (by omega)]
          refine ⟨fun q => ih2 0 (fun _ => h1 q) (fun q3 => absurd rfl q3), fun q => ?_⟩
          obtain ⟨g1, g2⟩ := h2 q
          have r0' := hq i i0 (by omega)
          have wi := hw i
          have nde : nd (R i) = R i := by unfold nd; rw [if_neg (by omega)]
          rw [hR3 i i0 i1, nde, jwr_id (z := 6 * a) (by omega) (by omega), jwr_id (z := 6 * b) (by omega) (by omega), jwr_id (z := 6 * a + i) (by omega) (by omega), jwr_id (z := 6 * b + R i) (by omega) (by omega), hM3.2.1.2.2.1 i i0 i1, hM3.2.2.2.2.1 (R i) r0' (by omega)]
          refine ⟨by rw [jal_28_7]; omega, by rw [jal_28_11]; omega, by rw [jal_28_7]; omega, fun q2 => ih2 0 (fun _ hk => q2 (hk.2.2.1 i i0 i1)) (fun q3 => absurd rfl q3), fun q2 => ih2 1 (fun q3 => absurd q3 (by decide)) (fun _ => ⟨g1, fun x x0 x1 => ?_⟩)⟩
          by_cases u : x = i
          · rw [u]; exact q2
          · exact g2 x x0 (by omega)
      rw [c3, hM3.2.1.2.1]
      exact ⟨b9a, fun q => k114 0 (by omega) (by omega) 0 (fun _ hk => q hk.2.1) (fun q3 => absurd rfl q3), fun q => k114 0 (by omega) (by omega) 1 (fun q3 => absurd q3 (by decide)) (fun _ => ⟨q, fun x x0 x1 => by omega⟩)⟩
  refine jcq (m_firstRow (C := C) (a := a) (b := b) hG.2.2.2.2 nb1.1 na1.2 hMR.2.2) (by decide) ?_
  rintro r1 M1 ⟨h1, f1⟩
  refine rows ((10 : Int) ^ T - num (row0 C a b) T).toNat (row0 C a b) M1 (by omega) (row0_rw C a b) h1 (fL_11 f1) (fun q hq hl => ?_)
  have := row0_min nb1.2 hq.1
  rw [hT] at this
  omega
