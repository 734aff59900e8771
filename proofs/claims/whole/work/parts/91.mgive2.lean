/-! the reference: giveUp, boundOf, bound -/
theorem gU_le {C : jM} {lv tm P : Int} {p : Int → Int} {n0 : Nat} (h : okS C lv tm P p n0) : ∀ n : Nat, n0 < n → (gU C lv tm P p n).1 ≤ bcS n0 6
  | 0, hn => by omega
  | n + 1, hn => by
    by_cases y : okS C lv tm P p n ∧ bcS n 6 < (gU C lv tm P p n).1
    · rw [gU_yes y]
      dsimp only
      by_cases u : n = n0
      · rw [u]; exact Int.le_refl _
      · have := gU_le h n (by omega)
        omega
    · rw [gU_no y]
      by_cases u : n = n0
      · have : ¬ bcS n 6 < (gU C lv tm P p n).1 := fun q => y ⟨by rw [u]; exact h, q⟩
        rw [u] at this ⊢
        omega
      · exact gU_le h n (by omega)
theorem m_giveUp {C M C' : jM} {R A : Int → Int} {r0 : Int} (hI : Inv C) (hR : rel C M) (hgl : ¬ C 23 0 0 = 0 → rw1 C 12 13 R ∧ jGl C C 24 23 R A) (hs : s_giveUp C R r0 C') : jCallP 5 98 [.inr (28, 0)] M (fun r M' => r = r0 ∧ fS M M') := by
  have h17 := hR.2.2.2.1.1
  refine jstart (by decide) rfl (fX10_giveUp_0 ⟨fun z => ?_, fun z => ⟨(jif_y hs (by rw [← h17]; exact z)).1.symm, fS_r M⟩⟩)
  rw [h17] at z
  obtain ⟨hs, -⟩ := jif_n hs z
  obtain ⟨hw, gl⟩ := hgl z
  obtain ⟨k1, -⟩ := kept_both hR z gl
  obtain ⟨-, h18, h19, -⟩ := hR.2.2.2.1.2 z |> fun h => (⟨trivial, h⟩ : True ∧ _)
  have hlv := (hI.2.2.2.2.2.2.2 z).1
  have hkd := hI.kd hR
  have hG : gd C 12 13 := ⟨hkd.1, hkd.2.1, hkd.2.2.1, by omega, by omega⟩
  have n1 := hkd.2.1.1.2.1.1
  have nb1 := hkd.2.2.1.1.2.1.1
  have T6 := hkd.2.2.2.2.1.1
  generalize hlv' : C 23 0 1 = lv at hs hlv h18
  generalize htm' : C 23 0 2 = tm at hs h19
  -- the sets
  have sets : ∀ P, isM P (fun x => x < C 12 0 0 ∧ 0 ≤ R x) → jWP 5 98 57 [some (.inr (28, 0)), some (.inl P), some (.inl (-6)), some (.inl 0), none] [] M (fun r M' => r = r0 ∧ fS M M') := by
    intro P hP
    obtain ⟨Pn, hPn, ePn⟩ := isM_lt64 hP (fun j h => by omega)
    have hr := hs P hP
    -- with all that is paired given up there is peace
    have hok : okS C lv tm P R Pn := by
      refine ⟨?_, quiet hG (fun x => ?_)⟩
      · rw [← ePn]
        exact ((hP.and hP.not).zero).mpr (fun j _ _ h => h.2 h.1)
      · have wx := hw x
        unfold gvn
        by_cases u : jiand (jishr Pn x) 1 = 0
        · rw [if_pos u]
          by_cases u2 : 0 ≤ x ∧ x < 32
          · have hP' := hP
            rw [ePn] at hP'
            have := (hP'.test u2.1 u2.2).mp u
            omega
          · omega
        · rw [if_neg u]
    have hle := gU_le hok 64 hPn
    have bP := bcS_bd (Pn : Int) 6
    have key : ∀ (j n : Nat) (l : Int) (N : jM), n + j = 64 → fS M N → ((l = -6 ∧ gU C lv tm P R n = (7, 0)) ∨ ((0 ≤ l ∧ l < 64) ∧ (gU C lv tm P R n).2 = l ∧ (gU C lv tm P R n).1 = bcS l 6)) → jWP 5 98 57 [some (.inr (28, 0)), some (.inl P), some (.inl l), some (.inl (n : Int)), none] [] N (fun r M' => r = r0 ∧ fS M M') := by
      intro j
      induction j with
      | zero =>
        intro n l N hn hf h
        have : n = 64 := by omega
        subst this
        refine fX10_giveUp_57 ⟨fun _ => ⟨?_, hf⟩, fun z => by exfalso; omega⟩
        rcases h with ⟨-, h⟩ | ⟨-, h, -⟩
        · rw [h] at hle
          dsimp only at hle
          omega
        · rw [hr, h]
      | succ j ih =>
        intro n l N hn hf h
        have en : (n : Int) + 1 = ((n + 1 : Nat) : Int) := by omega
        have nw : jwr (n : Int) = n := jwr_id (by omega) (by omega)
        have bn := bcS_bd (n : Int) 6
        have keep : ¬ (okS C lv tm P R n ∧ bcS n 6 < (gU C lv tm P R n).1) → ∀ N', fS M N' → jWP 5 98 57 [some (.inr (28, 0)), some (.inl P), some (.inl l), some (.inl (jwr ((n : Int) + 1))), none] [] N' (fun r M' => r = r0 ∧ fS M M') := fun hno N' hf' => by
          rw [jwr_id (by omega) (by omega), en]
          refine ih (n + 1) l N' (by omega) hf' ?_
          rw [gU_no hno]
          exact h
        have k83 : ∀ s, (¬ s = 0 ↔ bcS n 6 < (gU C lv tm P R n).1) → jWP 5 98 83 [some (.inr (28, 0)), some (.inl P), some (.inl l), some (.inl (n : Int)), none] [.inl s] N (fun r M' => r = r0 ∧ fS M M') := by
          intro s hs'
          refine fX10_giveUp_83 ⟨fun z2 => keep (fun q => z2 q.1.1) N hf, fun z2 => ⟨fun z3 => keep (fun q => hs'.mpr q.2 z3) N hf, fun z3 => ?_⟩⟩
          refine jcq (m_speaks (R := R) (v := n) (lv := lv) (tm := tm) (hf.kd hkd) nw hw (fun x x0 x1 => by rw [hf.2.1 21 (by omega)]; exact (k1 x x0 x1).1) (by rw [hf.2.2 18 (by omega)]; exact h18) (by rw [hf.2.2 19 (by omega)]; exact h19) hlv) (by decide) ?_
          rintro r1 N1 ⟨bl, f1⟩
          have hf1 := hf.tr f1
          refine ⟨fun z4 => keep (fun q => q.1.2 ((jBl_ne bl).mp z4)) N1 hf1, fun z4 => ?_⟩
          rw [jwr_id (by omega) (by omega), en]
          refine ih (n + 1) n N1 (by omega) hf1 (Or.inr ⟨by omega, ?_⟩)
          rw [gU_yes ⟨⟨z2, (jBl_eq bl).mp z4⟩, hs'.mp z3⟩]
          exact ⟨rfl, rfl⟩
        refine fX10_giveUp_57 ⟨fun z => by exfalso; omega, fun _ => ⟨fun z2 => k83 1 ⟨fun _ => ?_, fun _ => by decide⟩, fun z2 => ?_⟩⟩
        · rcases h with ⟨-, h⟩ | ⟨h, -⟩
          · rw [h]
            dsimp only
            omega
          · omega
        · have h' : (0 ≤ l ∧ l < 64) ∧ (gU C lv tm P R n).2 = l ∧ (gU C lv tm P R n).1 = bcS l 6 := by
            rcases h with ⟨h, -⟩ | h
            · omega
            · exact h
          refine jc (m_bits nw) (by decide) (jc (m_bits (jwr_id (by omega) (by omega))) (by decide) ⟨fun z3 => k83 0 ⟨fun q => absurd rfl q, fun q => by omega⟩, fun z3 => k83 1 ⟨fun _ => by omega, fun _ => by decide⟩⟩)
    exact key 64 0 (-6) M (by omega) (fS_r M) (Or.inl ⟨rfl, rfl⟩)
  -- what is paired
  have pair : ∀ i, 0 ≤ i → i ≤ C 12 0 0 → ∀ P, isM P (fun x => x < i ∧ 0 ≤ R x) → jWP 5 98 14 [some (.inr (28, 0)), some (.inl P), some (.inl i), none, none] [] M (fun r M' => r = r0 ∧ fS M M') := by
    refine jloop (e := C 12 0 0) (fun P hP => ?_) (fun i i0 i1 ih P hP => ?_)
    · exact fX10_giveUp_14 ⟨by rw [jal_28_6]; omega, fun _ => sets P hP, fun z => by rw [T6] at z; exfalso; omega⟩
    · obtain ⟨e21, p1, p2⟩ := k1 i i0 i1
      have nl := nd_lt (v := R i) p2
      refine fX10_giveUp_14 ⟨by rw [jal_28_6]; omega, fun z => by rw [T6] at z; exfalso; omega, fun _ => ⟨⟨i0, by rw [jal_28_21]; omega⟩, ?_⟩⟩
      rw [e21, jwr_id (by omega) (by omega)]
      refine ⟨fun z => ih _ ((hP.or isM_0).congr (fun j j0 j1 => ⟨fun q => ?_, fun q => ?_⟩)), fun z => ih _ ((hP.or (isM_bit (k := i) i0 (by omega))).congr (fun j j0 j1 => ⟨fun q => ?_, fun q => ?_⟩))⟩
      · rcases q with q | q
        · exact ⟨by omega, q.2⟩
        · exact q.elim
      · refine Or.inl ⟨?_, q.2⟩
        have : ¬ j = i := fun e => by rw [e] at q; have := nl.mp z; omega
        omega
      · rcases q with q | q
        · exact ⟨by omega, q.2⟩
        · rw [q]
          exact ⟨by omega, by omega⟩
      · by_cases u : j = i
        · exact Or.inr u
        · exact Or.inl ⟨by omega, q.2⟩
  exact pair 0 (by omega) (by omega) 0 (isM_0.congr (fun j j0 j1 => ⟨fun q => q.elim, fun q => by omega⟩))
theorem m_boundOf {C M : jM} {a b : Int} (hG : gd C a b) (hM : mR C M a b) : jCallP 1 99 [.inr (28, 0), .inl a, .inl b] M (fun r M' => r = bnd C a b ∧ M' = M) := by
  obtain ⟨hL, hGa, hGb, ha, hb⟩ := hG
  have hNa := hGa.1.2.1
  have hNb := hGb.1.2.1
  have hH := hGa.2.2.1
  have na1 := hNa.1
  have na2 := hNa.2
  have nb1 := hNb.1
  have nb2 := hNb.2
  obtain ⟨-, Ta, Tb⟩ := hM
  have k16 := bK_all hNa hNb hH 16
  have b9a : 0 ≤ a ∧ a < jal 28 9 := by rw [jal_28_9]; omega
  have b9b : 0 ≤ b ∧ b < jal 28 9 := by rw [jal_28_9]; omega
  have b6a : 0 ≤ a ∧ a < jal 28 6 := by rw [jal_28_6]; omega
  have b6b : 0 ≤ b ∧ b < jal 28 6 := by rw [jal_28_6]; omega
  refine jstart (by decide) rfl (fX10_boundOf_0 ?_)
  have sl : ∀ j n : Nat, n + j = 10 → jWP 1 99 200 [some (.inr (28, 0)), some (.inl a), some (.inl b), some (.inl (bK C a b 16 + bS C a b n)), some (.inl (n : Int)), none, none, none, none, none] [] M (fun r M' => r = bnd C a b ∧ M' = M) := by
    intro j
    induction j with
    | zero =>
      intro n hn
      have : n = 10 := by omega
      subst this
      exact fX10_boundOf_200 ⟨fun _ => ⟨rfl, rfl⟩, fun z => by exfalso; omega⟩
    | succ j ih =>
      intro n hn
      have hi := ih (n + 1) (by omega)
      have s1 := bS_all (b := b) hNa n
      have s2 := bS_all (b := b) hNa (n + 1)
      have e : bS C a b (n + 1) = bS C a b n + mn (cP (fun x => C a 4 x = n) (C a 0 0).toNat) (cP (fun x => C b 4 x = n) (C b 0 0).toNat) := rfl
      have en : (n : Int) + 1 = ((n + 1 : Nat) : Int) := by omega
      refine fX10_boundOf_200 ⟨fun z => by exfalso; omega, fun _ => ?_⟩
      generalize hx : cP (fun x => C a 4 x = n) (C a 0 0).toNat = X at e
      generalize hy : cP (fun x => C b 4 x = n) (C b 0 0).toNat = Y at e
      have kb : ∀ jj m : Nat, ((m + jj : Nat) : Int) = C b 0 0 → jWP 1 99 263 [some (.inr (28, 0)), some (.inl a), some (.inl b), some (.inl (bK C a b 16 + bS C a b n)), some (.inl (n : Int)), some (.inl X), some (.inl (cP (fun x => C b 4 x = n) m)), some (.inl (m : Int)), none, none] [] M (fun r M' => r = bnd C a b ∧ M' = M) := by
        intro jj
        induction jj with
        | zero =>
          intro m hm
          have eY : cP (fun x => C b 4 x = n) m = Y := by rw [← hy, show (C b 0 0).toNat = m by omega]
          rw [eY]
          unfold mn at e
          refine fX10_boundOf_263 ⟨b6b, fun _ => ⟨fun z => ?_, fun z => ?_⟩, fun z => by rw [Tb.1] at z; exfalso; omega⟩
          · by_cases u : Y < X
            · rw [if_pos u] at e
              rw [jwr_id (by omega) (by omega), jwr_id (by omega) (by omega), en, Int.add_assoc, ← e]
              exact hi
            · rw [if_neg u] at e
              rw [show Y = X by omega, jwr_id (by omega) (by omega), jwr_id (by omega) (by omega), en, Int.add_assoc, ← e]
              exact hi
          · rw [if_neg (by omega)] at e
            rw [jwr_id (by omega) (by omega), jwr_id (by omega) (by omega), en, Int.add_assoc, ← e]
            exact hi
        | succ jj ih2 =>
          intro m hm
          have h2 := ih2 (m + 1) (by omega)
          have em : (m : Int) + 1 = ((m + 1 : Nat) : Int) := by omega
          have c := cP_bd (fun x => C b 4 x = n) m
          have w : jwr (jwr (6 * b) + m) = 6 * b + m := by rw [jwr_id (z := 6 * b) (by omega) (by omega), jwr_id (by omega) (by omega)]
          refine fX10_boundOf_263 ⟨b6b, fun z => by rw [Tb.1] at z; exfalso; omega, fun _ => ?_⟩
          rw [w, Tb.2.2.1 m (by omega) (by omega), jwr_id (z := (m : Int) + 1) (by omega) (by omega), em]
          refine ⟨by rw [jal_28_7]; omega, fun z => ?_, fun z => ?_⟩
          · rw [jwr_id (by omega) (by omega), Int.add_zero]
            rwa [cP_no (P := fun x => C b 4 x = n) z] at h2
          · rw [jwr_id (by omega) (by omega)]
            rwa [cP_yes (P := fun x => C b 4 x = n) z] at h2
      have ka : ∀ jj m : Nat, ((m + jj : Nat) : Int) = C a 0 0 → jWP 1 99 216 [some (.inr (28, 0)), some (.inl a), some (.inl b), some (.inl (bK C a b 16 + bS C a b n)), some (.inl (n : Int)), some (.inl (cP (fun x => C a 4 x = n) m)), some (.inl 0), some (.inl (m : Int)), none, none] [] M (fun r M' => r = bnd C a b ∧ M' = M) := by
        intro jj
        induction jj with
        | zero =>
          intro m hm
          have eX : cP (fun x => C a 4 x = n) m = X := by rw [← hx, show (C a 0 0).toNat = m by omega]
          rw [eX]
          exact fX10_boundOf_216 ⟨b6a, fun _ => kb (C b 0 0).toNat 0 (by omega), fun z => by rw [Ta.1] at z; exfalso; omega⟩
        | succ jj ih2 =>
          intro m hm
          have h2 := ih2 (m + 1) (by omega)
          have em : (m : Int) + 1 = ((m + 1 : Nat) : Int) := by omega
          have c := cP_bd (fun x => C a 4 x = n) m
          have w : jwr (jwr (6 * a) + m) = 6 * a + m := by rw [jwr_id (z := 6 * a) (by omega) (by omega), jwr_id (by omega) (by omega)]
          refine fX10_boundOf_216 ⟨b6a, fun z => by rw [Ta.1] at z; exfalso; omega, fun _ => ?_⟩
          rw [w, Ta.2.2.1 m (by omega) (by omega), jwr_id (z := (m : Int) + 1) (by omega) (by omega), em]
          refine ⟨by rw [jal_28_7]; omega, fun z => ?_, fun z => ?_⟩
          · rw [jwr_id (by omega) (by omega), Int.add_zero]
            rwa [cP_no (P := fun x => C a 4 x = n) z] at h2
          · rw [jwr_id (by omega) (by omega)]
            rwa [cP_yes (P := fun x => C a 4 x = n) z] at h2
      exact ka (C a 0 0).toNat 0 (by omega)
  have kl : ∀ j n : Nat, n + j = 16 → jWP 1 99 5 [some (.inr (28, 0)), some (.inl a), some (.inl b), some (.inl (bK C a b n)), some (.inl (n : Int)), none, none, none, none, none] [] M (fun r M' => r = bnd C a b ∧ M' = M) := by
    intro j
    induction j with
    | zero =>
      intro n hn
      have : n = 16 := by omega
      subst this
      have h := sl 10 0 (by omega)
      rw [show bS C a b 0 = 0 from rfl, Int.add_zero] at h
      exact fX10_boundOf_5 ⟨fun _ => h, fun z => by exfalso; omega⟩
    | succ j ih =>
      intro k hk
      have hi := ih (k + 1) (by omega)
      have ek : (k : Int) + 1 = ((k + 1 : Nat) : Int) := by omega
      have kb1 := bK_all hNa hNb hH k
      have kb2 := bK_all hNa hNb hH (k + 1)
      obtain ⟨m1, m2, m3, m4⟩ := bK_bd (a := a) (b := b) hNa hNb hH k
      have e : bK C a b (k + 1) = bK C a b k + mn (cI (C a 5) k (C a 0 1)) (cI (C b 5) k (C b 0 1)) * 6 * hgh C a k (C a 0 1).toNat := rfl
      have cX := cI_bd' (C a 5) k na2.1
      have cY := cI_bd' (C b 5) k nb2.1
      refine fX10_boundOf_5 ⟨fun z => by exfalso; omega, fun _ => ?_⟩
      generalize hx : cI (C a 5) k (C a 0 1) = X at e m1 m2 m3 m4 cX
      generalize hy : cI (C b 5) k (C b 0 1) = Y at e m1 m2 m3 m4 cY
      generalize hh : hgh C a k (C a 0 1).toNat = H at e m3 m4
      have kb : ∀ i, 0 ≤ i → i ≤ C b 0 1 → jWP 1 99 125 [some (.inr (28, 0)), some (.inl a), some (.inl b), some (.inl (bK C a b k)), some (.inl (k : Int)), some (.inl X), some (.inl (cI (C b 5) k i)), some (.inl H), some (.inl i), none] [] M (fun r M' => r = bnd C a b ∧ M' = M) := by
        refine jloop (e := C b 0 1) ?_ (fun i i0 i1 ih2 => ?_)
        · rw [hy]
          have fin : ∀ x, x = mn X Y → jWP 1 99 5 [some (.inr (28, 0)), some (.inl a), some (.inl b), some (.inl (jwr (bK C a b k + jwr (jwr (x * 6) * H)))), some (.inl (jwr ((k : Int) + 1))), none, none, none, none, none] [] M (fun r M' => r = bnd C a b ∧ M' = M) := fun x hx => by
            rw [hx, jwr_id (z := mn X Y * 6) (by omega) (by omega), jwr_id (z := mn X Y * 6 * H) (by omega) (by omega), jwr_id (z := bK C a b k + mn X Y * 6 * H) (by omega) (by omega), jwr_id (by omega) (by omega), ek, ← e]
            exact hi
          refine fX10_boundOf_125 ⟨b9b, fun _ => ⟨fun z => fin Y ?_, fun z => fin X ?_⟩, fun z => by rw [Tb.2.1] at z; exfalso; omega⟩
          · unfold mn; split <;> omega
          · unfold mn; rw [if_neg (by omega)]
        · have c := cI_bd' (C b 5) k i0
          have cs := cI_s (f := C b 5) (k := k) i0
          refine fX10_boundOf_125 ⟨b9b, fun z => by rw [Tb.2.1] at z; exfalso; omega, fun _ => jc (m_at M (t := b) (e := i) (by omega) (by omega)) (by decide) ⟨by rw [jal_28_10]; omega, ?_⟩⟩
          rw [(Tb.2.2.2 i i0 i1).1, jwr_id (z := i + 1) (by omega) (by omega)]
          refine ⟨fun z => ?_, fun z => ?_⟩
          · rw [jwr_id (by omega) (by omega), Int.add_zero]
            rwa [cs, if_neg z, Int.add_zero] at ih2
          · rw [jwr_id (by omega) (by omega)]
            rwa [cs, if_pos z] at ih2
      have ka : ∀ jj m : Nat, ((m + jj : Nat) : Int) = C a 0 1 → jWP 1 99 24 [some (.inr (28, 0)), some (.inl a), some (.inl b), some (.inl (bK C a b k)), some (.inl (k : Int)), some (.inl (cntI (C a 5) k m)), some (.inl 0), some (.inl (hgh C a k m)), some (.inl (m : Int)), none] [] M (fun r M' => r = bnd C a b ∧ M' = M) := by
        intro jj
        induction jj with
        | zero =>
          intro m hm
          have eX : cntI (C a 5) k m = X := by rw [← hx]; unfold cI; rw [show (C a 0 1).toNat = m by omega]
          have eH : hgh C a k m = H := by rw [← hh, show (C a 0 1).toNat = m by omega]
          rw [eX, eH]
          refine fX10_boundOf_24 ⟨b9a, fun _ => ?_, fun z => by rw [Ta.2.1] at z; exfalso; omega⟩
          have := kb 0 (by omega) (by omega)
          rw [cI_0] at this
          exact this
        | succ jj ih2 =>
          intro m hm
          have h2 := ih2 (m + 1) (by omega)
          have em : (m : Int) + 1 = ((m + 1 : Nat) : Int) := by omega
          have c := cI_bd (C a 5) k m
          have cs : cntI (C a 5) k (m + 1) = cntI (C a 5) k m + if C a 5 m = k then 1 else 0 := rfl
          have hs : hgh C a k (m + 1) = if C a 5 m = k then (if hgh C a k m < C a 8 m then C a 8 m else hgh C a k m) else hgh C a k m := rfl
          have w5 : jwr (84 * a + 6 * (m : Int) + 5) = 84 * a + 6 * m + 5 := jwr_id (by omega) (by omega)
          have b5 : 0 ≤ 84 * a + 6 * (m : Int) + 5 ∧ 84 * a + 6 * (m : Int) + 5 < jal 28 10 := by rw [jal_28_10]; omega
          obtain ⟨r0, -, -, -, -, r5⟩ := Ta.2.2.2 m (by omega) (by omega)
          refine fX10_boundOf_24 ⟨b9a, fun z => by rw [Ta.2.1] at z; exfalso; omega, fun _ => jc (m_at M (t := a) (e := m) (by omega) (by omega)) (by decide) ⟨by rw [jal_28_10]; omega, ?_⟩⟩
          rw [r0]
          refine ⟨fun z => ⟨fun _ => fX10_boundOf_70 ⟨fun _ => ?_, fun z2 => absurd rfl z2⟩, fun z2 => absurd rfl z2⟩, fun z => ⟨fun z2 => absurd z2 (by decide), fun _ => fX10_boundOf_70 ⟨fun z2 => absurd z2 (by decide), fun _ => jc (m_at M (t := a) (e := m) (by omega) (by omega)) (by decide) ?_⟩⟩⟩
          · rw [cs, hs, if_neg z, if_neg z, Int.add_zero] at h2
            rw [jwr_id (by omega) (by omega), jwr_id (by omega) (by omega), em, Int.add_zero]
            exact h2
          · rw [cs, hs, if_pos z, if_pos z] at h2
            rw [w5, r5, jwr_id (z := cntI (C a 5) k m + 1) (by omega) (by omega), jwr_id (z := (m : Int) + 1) (by omega) (by omega), em]
            refine ⟨b5, fun z2 => ?_, fun z2 => jc (m_at M (t := a) (e := m) (by omega) (by omega)) (by decide) ?_⟩
            · rw [if_neg (by omega)] at h2
              exact h2
            · rw [w5, r5]
              rw [if_pos z2] at h2
              exact ⟨b5, h2⟩
      exact ka (C a 0 1).toNat 0 (by omega)
  exact kl 16 0 (by omega)
theorem m_bound {C M : jM} {a b r0 : Int} (hI : Inv C) (hR : rel C M) (hs : s_bound C a b r0) : jCallP 2 100 [.inr (28, 0), .inl a, .inl b] M (fun r M' => r = r0 ∧ M' = M) := by
  refine jstart (by decide) rfl (fX10_bound_0 ?_)
  refine jc (m_isTale M a) (by decide) ⟨fun q => ⟨(jif_n hs (fun h => jite_eq.mp q h.1)).symm, rfl⟩, fun q => ?_⟩
  have ha := jite_ne.mp q
  refine jc (m_isTale M b) (by decide) ⟨fun q => ⟨(jif_n hs (fun h => jite_eq.mp q h.2)).symm, rfl⟩, fun q => ?_⟩
  have hb := jite_ne.mp q
  exact jc (m_boundOf (hI.gd ⟨ha.1, by omega⟩ ⟨hb.1, by omega⟩) (hR.mR ⟨ha.1, by omega⟩ ⟨hb.1, by omega⟩)) (by decide) ⟨(jif_y hs ⟨ha, hb⟩).symm, rfl⟩
