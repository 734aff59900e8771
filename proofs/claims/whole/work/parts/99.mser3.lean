theorem m_series {C M C' : jM} {a b c d r0 : Int} (hI : Inv C) (hR : rel C M) (hs : s_series C a b c d r0 C') : jCallP 5 108 [.inr (28, 0), .inl a, .inl b, .inl c, .inl d] M (fun r M' => r = r0 ∧ rel C' M' ∧ f28 M M') := by
  refine jstart (by decide) rfl (fX10_series_0 ?_)
  refine jc (m_isTale M a) (by decide) ⟨fun q => ?_, fun q => ?_⟩
  · obtain ⟨e1, rfl⟩ := jif_n hs (fun h => jite_eq.mp q h.1)
    exact ⟨e1.symm, hR, f28_r M⟩
  have ha := jite_ne.mp q
  refine jc (m_isTale M b) (by decide) ⟨fun q => ?_, fun q => ?_⟩
  · obtain ⟨e1, rfl⟩ := jif_n hs (fun h => jite_eq.mp q h.2.1)
    exact ⟨e1.symm, hR, f28_r M⟩
  have hb := jite_ne.mp q
  refine jc (m_isTale M c) (by decide) ⟨fun q => ?_, fun q => ?_⟩
  · obtain ⟨e1, rfl⟩ := jif_n hs (fun h => jite_eq.mp q h.2.2.1)
    exact ⟨e1.symm, hR, f28_r M⟩
  have hc := jite_ne.mp q
  refine jc (m_isTale M d) (by decide) ⟨fun q => ?_, fun q => ?_⟩
  rotate_left
  · obtain ⟨e1, rfl⟩ := jif_n hs (fun h => jite_eq.mp q h.2.2.2)
    exact ⟨e1.symm, hR, f28_r M⟩
  have hd := jite_ne.mp q
  obtain ⟨R1, R2, T, S, W, hB1, hB2, tf, ⟨h1, h2, h3, bX, bT, wD, hW, hO2⟩, hfin, -⟩ := jif_y hs ⟨ha, hb, hc, hd⟩
  have hm4 : M 28 0 4 = C 18 0 8 := hR.2.2.2.2.1
  have htm := hI.tm
  generalize htme : C 18 0 8 = tm at hB1 hB2 h3 bT wD hO2 hfin hm4 htm
  have hG1 := hI.gd (a := a) (b := b) ⟨ha.1, by omega⟩ ⟨hb.1, by omega⟩
  have hG2 := hI.gd (a := a) (b := c) ⟨ha.1, by omega⟩ ⟨hc.1, by omega⟩
  have hGc := hG2.2.2.1
  have na1 := hG1.2.1.1.2.1.1
  have na2 := hG1.2.1.1.2.1.2
  have nb1 := hG1.2.2.1.1.2.1.1
  have nb2 := hG1.2.2.1.1.2.1.2
  have nc1 := hGc.1.2.1.1
  have nc2 := hGc.1.2.1.2
  have eTg : ∀ g, 0 ≤ g ∧ g < 14 → T g = C g := fun g h => by funext y; exact tf g y (by omega)
  have eT19 : T 19 = C 19 := by funext y; exact tf 19 y (by omega)
  have eTa := eTg a (by omega)
  have eTc := eTg c (by omega)
  have fbd := fun i => ansF_bd C a b 0 0 tm R1 nb2.1 (C a 0 1).toNat i
  have abd := fun i => ansF_bd C a c 0 0 tm R2 nc2.1 (C a 0 1).toNat i
  have iF : inj (ans C a b 0 0 tm R1) (C a 0 1) := ans_inj
  have hFb : ∀ i, -1 ≤ ans C a b 0 0 tm R1 i ∧ ans C a b 0 0 tm R1 i < 14 := fun i => by have := fbd i; unfold ans; omega
  have hAb : ∀ i, -1 ≤ ans C a c 0 0 tm R2 i ∧ ans C a c 0 0 tm R2 i < C c 0 1 := fun i => by have := abd i; unfold ans; omega
  have hR1b : ∀ x, -1 ≤ R1 x ∧ R1 x < 6 := fun x => by rcases hB1.1.1 x with e | e <;> omega
  have hR2b : ∀ x, -1 ≤ R2 x ∧ R2 x < 6 := fun x => by rcases hB2.1.1 x with e | e <;> omega
  have iR : inj R1 (C a 0 0) := fun x y _ _ _ _ hx e => hB1.1.2 x y hx e
  unfold srW at hfin
  unfold srL at bT wD
  rw [eTa] at h3 bX bT wD
  rw [eTc] at h1 h3 bT wD
  generalize hFe : ans C a b 0 0 tm R1 = F at *
  generalize hAe : ans C a c 0 0 tm R2 = A at *
  have hpf : ∀ k, (fun k => ¬ lsN F A (C a 0 1) k) k ↔ ¬ lsN F A (C a 0 1) k := fun k => Iff.rfl
  generalize hP : (fun k => ¬ lsN F A (C a 0 1) k) = P at h3 bT wD hpf
  obtain ⟨t0, t1, t2, t3, t4, t5, t7⟩ := h1
  rw [eTc] at t0 t2 t3
  have eSg : ∀ g, 0 ≤ g ∧ g < 14 → S g = C g := fun g h => by rw [← eTg g h]; funext y; exact t7 g y (by omega) (by omega)
  have eS19 : S 19 = C 19 := by rw [← eT19]; funext y; exact t7 19 y (by simp) (by simp)
  have eSc := eSg c (by omega)
  have hUc : jUq S c := by
    have := hI.2.2.1 c hc.1 (by omega)
    unfold jUq mtie at this ⊢
    rw [eSc, eS19]
    exact this
  have h3' : wOk c P (S c 5) (S c 7) S := by rw [eSc]; exact h3
  have linv := lf_inv h3' h2 hUc (fun z z0 z1 => by rw [eSc] at z1; exact (t3 z z0 z1).2) t5 t1
  rw [eSc] at linv
  generalize hD : wv c P (C c 5) (C c 7) S = D at bT wD linv
  have Dwk : ∀ n : Nat, (n : Int) ≤ C c 0 1 → jWk (D n) := fun n hn => by rw [← hD]; exact (wv_wk h3 h2 n (by rw [eSc]; exact hn)).1
  have Dfr : ∀ n, wFr S (D n) := fun n => by rw [← hD]; exact wv_fr c P (C c 5) (C c 7) S n
  have Dlen : ∀ n : Nat, D n 14 0 1 ≤ n := fun n => by
    have := wv_len c P (C c 5) (C c 7) S n
    rw [hD, t1] at this
    omega
  have Dc : ∀ n, D n c = C c := fun n => by rw [← eSc]; funext y; exact (Dfr n).1 c y (by omega) (by omega)
  have D19 : ∀ n, D n 19 = C 19 := fun n => by rw [← eS19]; funext y; exact (Dfr n).1 19 y (by simp) (by simp)
  have D66 : ∀ n, D n 26 6 = S 26 6 := fun n => (Dfr n).1 26 6 (by simp) (by simp)
  have st1 : ∀ n : Nat, P n ∧ aE (D n) c n → D (n + 1) = brg (D n) c n (C c 5 n) (C c 7 n) := fun n h => by rw [← hD] at h ⊢; exact wv_yes h
  have st2 : ∀ n : Nat, ¬ (P n ∧ aE (D n) c n) → D (n + 1) = D n := fun n h => by rw [← hD] at h ⊢; exact wv_no h
  -- the world behind the bridge
  have eWg : ∀ g, 0 ≤ g ∧ g < 14 → W g = C g := fun g h => by rw [← eSg g h]; funext y; rw [wD g y (by omega), (Dfr _).1 g y (by omega) (by omega)]
  have eWa := eWg a (by omega)
  have eWb := eWg b (by omega)
  have eW19 : W 19 = C 19 := by rw [← D19 (C c 0 1).toNat]; funext y; exact wD 19 y (by omega)
  have eW14 : W 14 = D (C c 0 1).toNat 14 := by funext y; exact wD 14 y (by omega)
  rw [eWa, eWb] at hO2 hfin
  have wl02 : W 14 0 2 = C c 0 2 := by rw [eW14, (Dfr _).2.2, t2]
  generalize hQ : (fun (r : Int) (M' : jM) => r = r0 ∧ rel C' M' ∧ f28 M M') = Q
  have vfr := (wv_fr b (fun j => ¬ cmeN F (C a 0 1) j) (C b 5) (C b 7) W (C b 0 1).toNat).2.2
  have go : ∀ r1 M1, (∃ R', best C a b 0 tm 0 R' ∧ r1 = wth C a b 0 0 tm R' ∧ mRow C M1 a R' ∧ mAns C M1 b (ans C a b 0 0 tm R') (C a 0 1) ∧ M1 28 0 15 = prs C a R' ∧ (∀ q, vld C a b q → wth C a b 0 1 tm q ≤ M1 28 0 16) ∧ (∃ q, vld C a b q ∧ wth C a b 0 1 tm q = M1 28 0 16) ∧ fL M M1) → jWP 5 108 58 [some (.inr (28, 0)), some (.inl a), some (.inl b), some (.inl c), some (.inl d), some (.inl 0), some (.inl 0), none, none, none, none, none, none] [] M1 Q := by
    rintro r1 M1 ⟨R', hB', -, hrow, hans, -, -, -, f1⟩
    have eR : R' = R1 := best_one nb1.2 hB' hB1
    subst eR
    rw [hFe] at hans
    have hR1 : rel C M1 := hR.sc f1.s (cR_r C)
    have b11 : ∀ v, 0 ≤ v → v < 6 → 0 ≤ v ∧ v < jal 28 11 := fun v _ _ => by rw [jal_28_11]; omega
    have b33 : ∀ v, 0 ≤ v → v < 6 → 0 ≤ v ∧ v < jal 28 33 := fun v _ _ => by rw [jal_28_33]; omega
    have b12 : ∀ v, 0 ≤ v → v < 14 → 0 ≤ v ∧ v < jal 28 12 := fun v _ _ => by rw [jal_28_12]; omega
    have b34 : ∀ v, 0 ≤ v → v < 14 → 0 ≤ v ∧ v < jal 28 34 := fun v _ _ => by rw [jal_28_34]; omega
    have b9a : 0 ≤ a ∧ a < jal 28 9 := by rw [jal_28_9]; omega
    have b9c : 0 ≤ c ∧ c < jal 28 9 := by rw [jal_28_9]; omega
    have sc : ∀ N : jM, (∀ x y, ¬ (x = 28 ∧ (y = 33 ∨ y = 34)) → N x y = M1 x y) → fS M1 N := fun N f => ⟨fun x y h => f x y (by omega), fun y h => f 28 y (by omega), fun z h => by rw [f 28 0 (by simp)]⟩
    -- behind the second likeness
    have second : ∀ L0, isM L0 (cmeN F (C a 0 1)) → ∀ r2 M3 N, fS M1 N → (∀ x, 0 ≤ x → x < C a 0 0 → N 28 33 x = nd (R' x)) → (∀ i, 0 ≤ i → i < C a 0 1 → N 28 34 i = jno (F i)) → (∃ R', best C a c 0 tm 0 R' ∧ r2 = wth C a c 0 0 tm R' ∧ mRow C M3 a R' ∧ mAns C M3 c (ans C a c 0 0 tm R') (C a 0 1) ∧ M3 28 0 15 = prs C a R' ∧ (∀ q, vld C a c q → wth C a c 0 1 tm q ≤ M3 28 0 16) ∧ (∃ q, vld C a c q ∧ wth C a c 0 1 tm q = M3 28 0 16) ∧ fL N M3) → jWP 5 108 174 [some (.inr (28, 0)), some (.inl a), some (.inl b), some (.inl c), some (.inl d), some (.inl L0), some (.inl 0), some (.inl 0), none, none, none, none, none] [] M3 Q := by
      rintro L0 hL0 r2 M3 N fN n33 n34 ⟨R'', hB'', -, hrow2, hans2, -, -, -, f3⟩
      have eR2 : R'' = R2 := best_one nc1.2 hB'' hB2
      subst eR2
      rw [hAe] at hans2
      have f13 : fS M1 M3 := fN.tr f3.s
      have hR3 : rel C M3 := hR1.sc f13 (cR_r C)
      have g28 : f28 M M3 := f1.1.tr f13.1
      have m33 : ∀ x, 0 ≤ x → x < C a 0 0 → M3 28 33 x = nd (R' x) := fun x x0 x1 => by rw [f3.2.1 33 (by decide)]; exact n33 x x0 x1
      have m34 : ∀ i, 0 ≤ i → i < C a 0 1 → M3 28 34 i = jno (F i) := fun i i0 i1 => by rw [f3.2.1 34 (by decide)]; exact n34 i i0 i1
      -- the ties that are left
      have left : ∀ (j n : Nat) (N : jM) (L : Int), ((n + j : Nat) : Int) = C c 0 1 → fC M3 N → o14 M3 N → N 28 33 = M3 28 33 → N 28 34 = M3 28 34 → rT (D n) N 14 → N 28 8 14 = C c 0 2 → (∀ v, 0 ≤ v → v < 6 → N 28 31 v = v) → (∀ j : Int, 0 ≤ j → j < n → N 28 35 j = jno (D n 26 7 j)) → (∀ j : Int, 0 ≤ j → j < n → 0 ≤ D n 26 7 j → N 28 32 j = D n 26 7 j) → isM L (fun j => (j < n ∧ D n 26 7 j = -1) ∨ ((n : Int) ≤ j ∧ lsN F A (C a 0 1) j)) → jWP 5 108 304 [some (.inr (28, 0)), some (.inl a), some (.inl b), some (.inl c), some (.inl d), some (.inl L0), some (.inl L), some (.inl (n : Int)), none, none, none, none, none] [] N Q := by
        intro j
        induction j with
        | zero =>
          intro n N L hn hf ho k1 k2 hw hl h31 h35 h32 hL
          have hRN := hR3.made hI hf ho
          have eN : (C c 0 1).toNat = n := by omega
          rw [eN] at bT wD eW14
          refine fX10_series_304 ⟨b9c, fun _ => ?_, fun z => by rw [(hRN.2.1 c hc.1 (by omega)).2.1] at z; exfalso; omega⟩
          have w7 := (Dwk n (by omega)).2.2.2.2
          have n14 := (Dwk n (by omega)).1.1.2.1.2
          rw [← hQ]
          refine m_won (tm := 0) (W := W) (D1 := D n) (R1 := R') (R2 := R'') (F := F) (A := A) (M := M) hI hR3 g28 ha hb hc hd hrow2 hR1b hR2b (fun i i0 i1 => ⟨m34 i i0 i1, (hFb i).1⟩) m33 hans2 iF iR bX bT (fun j j0 j1 => by have := w7 j j0 j1; omega) hW hO2 eWb eW19 hL0 (fun hnr => ?_) (fun hnr => ?_) N hf ho k1 k2 (fun k kk0 kk1 => h35 k kk0 (by omega)) ?_ (by rw [hl, wl02])
          · obtain ⟨e1, e2⟩ := jif_y hfin hnr
            exact ⟨e1.symm, fun x y hx h0 => e2 x y (by omega)⟩
          · obtain ⟨e1, e2, e3, e4⟩ := jif_n hfin hnr
            exact ⟨e1, by rw [e2, vfr], e3, e4⟩
          · unfold rT at hw ⊢
            rw [eW14]
            exact hw
        | succ j ih =>
          intro n N L hn hf ho k1 k2 hw hl h31 h35 h32 hL
          have en : (n : Int) + 1 = ((n + 1 : Nat) : Int) := by omega
          have hRN := hR3.made hI hf ho
          have Tc := hRN.2.1 c hc.1 (by omega)
          have w := Dwk n (by omega)
          have w7 := w.2.2.2.2
          have n14 := w.1.1.2.1.2
          have dl := Dlen n
          have KC := hGc.1.2.2.1 n (by omega) (by omega)
          have pk := (hRN.1 _ KC.1 KC.2).1
          have hEs := fun q q0 q1 => hGc.2.1 n q (by omega) (by omega) q0 q1
          have hCs := fun q q0 q1 => hGc.2.2.2.2 n q (by omega) (by omega) q0 q1
          obtain ⟨⟨l1, l3⟩, -⟩ := hI.L _ KC.1 KC.2
          obtain ⟨q0, q1, q2, q3, q4, -⟩ := Tc.2.2.2 n (by omega) (by omega)
          obtain ⟨i1, i2, i3⟩ := linv n (by omega)
          have dn := i1 n (by omega) (by omega)
          have bI : ∀ q, 0 ≤ q → q ≤ 4 → 0 ≤ 84 * c + 6 * (n : Int) + q ∧ 84 * c + 6 * (n : Int) + q < jal 28 10 := fun q _ _ => by rw [jal_28_10]; omega
          have bI0 : 0 ≤ 84 * c + 6 * (n : Int) ∧ 84 * c + 6 * (n : Int) < jal 28 10 := by rw [jal_28_10]; omega
          have wI : ∀ q, 0 ≤ q → q ≤ 4 → jwr (84 * c + 6 * (n : Int) + q) = 84 * c + 6 * n + q := fun q _ _ => jwr_id (by omega) (by omega)
          have bK : 0 ≤ C c 5 n ∧ C c 5 n < jal 28 1 := by rw [jal_28_1]; exact KC
          have b35 : 0 ≤ (n : Int) ∧ (n : Int) < jal 28 35 := by rw [jal_28_35]; omega
          have b32 : 0 ≤ (n : Int) ∧ (n : Int) < jal 28 32 := by rw [jal_28_32]; omega
          -- ends that are there
          have nEv : ∀ q, 0 ≤ q → q < 3 → (C c 6 (3 * n + q) < 10 → (nE (D n) (C c 6 (3 * n + q)) = C c 6 (3 * n + q))) ∧ (10 ≤ C c 6 (3 * n + q) → (nE (D n) (C c 6 (3 * n + q)) = -1 ↔ D n 26 7 (C c 6 (3 * n + q) - 10) = -1)) := fun q qq0 qq1 => by
            have es := hEs q qq0 qq1
            constructor
            · intro h
              have := es.2.1 h
              unfold nE
              by_cases u : C c 6 (3 * n + q) < 0
              · rw [if_pos u]; omega
              · rw [if_neg u, if_pos (by omega), D66]
                exact (t3 _ (by omega) this).2
            · intro h
              have := w7 (C c 6 (3 * n + q) - 10) (by omega) (by omega)
              unfold nE
              rw [if_neg (by omega), if_neg (by omega)]
              by_cases u : D n 26 7 (C c 6 (3 * n + q) - 10) = -1
              · rw [if_neg (fun w => w.2 u)]
                exact ⟨fun _ => u, fun _ => rfl⟩
              · rw [if_pos ⟨by omega, u⟩]
                exact ⟨fun h => by omega, fun h => absurd h u⟩
          have k326 : ∀ q : Int, 0 ≤ q → q ≤ C 19 1 (C c 5 n) → ∀ L', isM L' (fun j => (j < n ∧ D n 26 7 j = -1) ∨ ((n : Int) < j ∧ lsN F A (C a 0 1) j) ∨ (j = n ∧ (lsN F A (C a 0 1) n ∨ ∃ u, (0 ≤ u ∧ u < q) ∧ 10 ≤ C c 6 (3 * n + u) ∧ D n 26 7 (C c 6 (3 * n + u) - 10) = -1))) → jWP 5 108 326 [some (.inr (28, 0)), some (.inl a), some (.inl b), some (.inl c), some (.inl d), some (.inl L0), some (.inl L'), some (.inl (n : Int)), some (.inl (84 * c + 6 * (n : Int))), some (.inl q), none, none, none] [] N Q := by
            refine jloop (e := C 19 1 (C c 5 n)) (fun L' hL' => ?_) (fun q qq0 qq1 ih2 L' hL' => ?_)
            · -- whether it is gone
              have hg : (lsN F A (C a 0 1) n ∨ ∃ u, (0 ≤ u ∧ u < C 19 1 (C c 5 n)) ∧ 10 ≤ C c 6 (3 * n + u) ∧ D n 26 7 (C c 6 (3 * n + u) - 10) = -1) ↔ ¬ (P n ∧ aE (D n) c n) := by
                constructor
                · rintro (h | ⟨u, uu, u1, u2⟩) hpa
                  · exact (hpf n).mp hpa.1 h
                  · have := hpa.2 u uu.1 (by omega)
                    rw [Dc] at this
                    rcases this with e | e
                    · omega
                    · exact e (((nEv u uu.1 (by omega)).2 u1).mpr u2)
                · intro h
                  apply Classical.byContradiction
                  intro hn2
                  refine h ⟨(hpf n).mpr (fun q => hn2 (Or.inl q)), fun u u0 u1 => ?_⟩
                  rw [Dc]
                  by_cases e : C c 6 (3 * n + u) = -1
                  · exact Or.inl e
                  · right
                    have cs := hCs u u0 u1
                    have es := hEs u u0 u1
                    by_cases v : C c 6 (3 * n + u) < 10
                    · rw [(nEv u u0 u1).1 v]; exact e
                    · intro e2
                      exact hn2 (Or.inr ⟨u, by omega, by omega, ((nEv u u0 u1).2 (by omega)).mp e2⟩)
              have tst := hL'.test (k := n) (by omega) (by omega)
              have tst' : jiand (jishr L' n) 1 = 0 ↔ (P n ∧ aE (D n) c n) := by
                rw [tst]
                constructor
                · intro h
                  apply Classical.byContradiction
                  intro h2
                  exact h (Or.inr (Or.inr ⟨rfl, hg.mpr h2⟩))
                · intro h q
                  rcases q with q | q | q
                  · omega
                  · omega
                  · exact hg.mp q.2 h
              refine fX10_series_326 ⟨bI0, ?_⟩
              rw [q0, pk]
              refine ⟨bK, fun _ => ⟨b35, b32, fun z => ?_, fun z => ?_⟩, fun z => by exfalso; omega⟩
              · have no : ¬ (P n ∧ aE (D n) c n) := fun h => z (tst'.mpr h)
                rw [jwr_id (by omega) (by omega), en]
                have y2 : ∀ y, ¬ y = 35 → ¬ y = 32 → jup (jup N 28 35 n (-6)) 28 32 n 0 28 y = N 28 y := fun y h h' => by rw [jup_set, jset_ne (by omega), jup_set, jset_ne (by omega)]
                refine ih (n + 1) _ L' (by omega) ((hf.tr (fC_x (by omega))).tr (fC_x (by omega))) ((ho.tr (o14_x (by omega))).tr (o14_x (by omega))) (by rw [y2 33 (by decide) (by decide), k1]) (by rw [y2 34 (by decide) (by decide), k2]) (by rw [st2 n no]; exact hw.fx rfl (fun y hy => y2 y (by omega) (by omega))) (by rw [y2 8 (by decide) (by decide), hl]) (fun v v0 v1 => by rw [y2 31 (by decide) (by decide)]; exact h31 v v0 v1) (fun i i0 i1' => ?_) (fun i i0 i1' hi => ?_) (hL'.congr (fun i i0 i1' => ?_))
                · rw [st2 n no, jup_ne (by simp)]
                  by_cases u : i = n
                  · rw [u, jup_eq, dn]; rfl
                  · rw [jup_ne (by omega)]; exact h35 i i0 (by omega)
                · rw [st2 n no] at hi ⊢
                  have : ¬ i = n := fun e => by rw [e, dn] at hi; exact absurd hi (by decide)
                  rw [jup_ne (by omega), jup_ne (by simp)]
                  exact h32 i i0 (by omega) hi
                · rw [st2 n no]
                  constructor
                  · rintro (q | q | q)
                    · exact Or.inl ⟨by omega, q.2⟩
                    · exact Or.inr ⟨by omega, q.2⟩
                    · exact Or.inl ⟨by omega, by rw [q.1]; exact dn⟩
                  · rintro (q | q)
                    · by_cases u : i = n
                      · exact Or.inr (Or.inr ⟨u, hg.mpr no⟩)
                      · exact Or.inl ⟨by omega, q.2⟩
                    · exact Or.inr (Or.inl ⟨by omega, q.2⟩)
              · have hpa := tst'.mp z
                have hGD : jGood (D n) c := good_agr (D19 n) (agr_fx (Dc n)) (by omega) hGc
                have nk : ∀ q, 0 ≤ q → q < 3 → eOk (D n) 14 (C c 5 n) (nE (D n) (C c 6 (3 * n + q))) q := fun q qq0 qq1 => by
                  have := nE_ok (D := D n) (g := c) (i := n) (k := C c 5 n) (q := q) w hGD.2.1 hGD.2.2.2.2 ⟨hGD.1.2.1.1.2, hGD.1.2.1.2.2⟩ (by rw [Dc]; omega) (by rw [Dc]) hpa.2 ⟨qq0, qq1⟩
                  rw [Dc] at this
                  exact this
                have hnew := lf_new (S := S) (D := D n) (c := c) (n := n) ⟨i1, i2, i3⟩ hUc (by unfold jEs; rw [eSc]; exact hGc.2.1) (by unfold jNB; rw [eSc]; exact hGc.1.2.1) (by rw [Dc, eSc]) (by rw [D19, eS19]) (by rw [eSc]; omega) (fun z z0 z1 => by rw [eSc] at z1; rw [D66]; exact (t3 z z0 z1).2) (fun i i0 i1' => (w7 i i0 i1').1) hpa.2
                rw [eSc] at hnew
                have mvd : ∀ (N' : jM), (∀ v, 0 ≤ v → v < 6 → N' 28 31 v = v) → (∀ j : Int, 0 ≤ j → j < n → 0 ≤ D n 26 7 j → N' 28 32 j = D n 26 7 j) → ∀ q, 0 ≤ q → q < 3 → jCallP 0 104 [.inr (28, 0), .inl (jno (C c 6 (3 * n + q)))] N' (fun r M' => r = jno (nE (D n) (C c 6 (3 * n + q))) ∧ M' = N') := fun N' g31 g32 q qq0 qq1 => by
                  have es := hEs q qq0 qq1
                  have ha' := hpa.2 q qq0 qq1
                  rw [Dc] at ha'
                  refine m_moved ⟨es.1, by omega, fun h => by have := es.2.1 h; omega⟩ (fun h h' => ?_) (fun h => ?_)
                  · have := es.2.1 h'
                    rw [D66, (t3 _ h this).2]
                    exact ⟨g31 _ h (by omega), h⟩
                  · have e7 := w7 (C c 6 (3 * n + q) - 10) (by omega) (by omega)
                    have : ¬ D n 26 7 (C c 6 (3 * n + q) - 10) = -1 := fun e => by
                      rcases ha' with e2 | e2
                      · omega
                      · exact e2 (((nEv q qq0 qq1).2 h).mpr e)
                    exact ⟨g32 _ (by omega) (by omega) (by omega), by omega, by omega⟩
                obtain ⟨fb1, fb2, fb3⟩ := brg_26 (D n) c n (C c 5 n) (C c 7 n)
                rw [← st1 n hpa, Dc] at fb2 fb3
                rw [← st1 n hpa] at fb1
                have o0 := nk 0 (by omega) (by omega)
                rw [Int.add_zero] at o0
                have o1 := nk 1 (by omega) (by omega)
                have o2 := nk 2 (by omega) (by omega)
                have lt14 : D n 14 0 1 < 14 := by omega
                have nz : ¬ ¬ fnd (D n) 14 (C c 5 n) (nE (D n) (C c 6 (3 * n))) (nE (D n) (C c 6 (3 * n + 1))) (nE (D n) (C c 6 (3 * n + 2))) = -1 := fun q => q hnew
                have fb2' : D (n + 1) 26 7 n = D n 14 0 1 := by rw [fb2]; unfold fopN; rw [if_neg nz, if_pos lt14]
                have fb3' : D (n + 1) 14 = jput (D n) 14 (C c 5 n) (nE (D n) (C c 6 (3 * n))) (nE (D n) (C c 6 (3 * n + 1))) (nE (D n) (C c 6 (3 * n + 2))) (C c 7 n) 14 := by rw [fb3]; unfold fopM; rw [if_neg nz, if_pos lt14]
                have e9 : jup (jup N 28 35 n (-6)) 28 32 n 0 28 9 14 = D n 14 0 1 := by rw [jup_ne (by simp), jup_ne (by simp)]; exact hw.2.1
                rw [e9]
                have e35 : jup (jup (jup N 28 35 n (-6)) 28 32 n 0) 28 35 n (D n 14 0 1) 28 35 n = D n 14 0 1 := jup_eq _ _ _ _ _
                rw [e35]
                generalize hN2 : jup (jup (jup (jup N 28 35 n (-6)) 28 32 n 0) 28 35 n (D n 14 0 1)) 28 32 n (D n 14 0 1) = N2
                have y2 : ∀ y, ¬ y = 35 → ¬ y = 32 → N2 28 y = N 28 y := fun y h h' => by rw [← hN2, jup_set, jset_ne (by omega), jup_set, jset_ne (by omega), jup_set, jset_ne (by omega), jup_set, jset_ne (by omega)]
                have v35 : N2 28 35 n = D n 14 0 1 := by rw [← hN2, jup_ne (by simp), jup_eq]
                have v32 : N2 28 32 n = D n 14 0 1 := by rw [← hN2, jup_eq]
                have u35 : ∀ i : Int, ¬ i = n → N2 28 35 i = N 28 35 i := fun i h => by rw [← hN2, jup_ne (by simp), jup_ne (by omega), jup_ne (by simp), jup_ne (by omega)]
                have u32 : ∀ i : Int, ¬ i = n → N2 28 32 i = N 28 32 i := fun i h => by rw [← hN2, jup_ne (by omega), jup_ne (by simp), jup_ne (by omega), jup_ne (by simp)]
                have hf2 : fC M3 N2 := by rw [← hN2]; exact (((hf.tr (fC_x (by omega))).tr (fC_x (by omega))).tr (fC_x (by omega))).tr (fC_x (by omega))
                have ho2 : o14 M3 N2 := by rw [← hN2]; exact (((ho.tr (o14_x (by omega))).tr (o14_x (by omega))).tr (o14_x (by omega))).tr (o14_x (by omega))
                have mv := mvd N2 (fun v v0 v1 => by rw [y2 31 (by decide) (by decide)]; exact h31 v v0 v1) (fun i i0 i1' hi => by rw [u32 i (by omega)]; exact h32 i i0 i1' hi)
                have mv0 := mv 0 (by omega) (by omega)
                rw [Int.add_zero] at mv0
                have rD2 : rL (D n) N2 := fun k kk0 kk1 => by rw [D19]; exact (hR3.made hI hf2 ho2).1 k kk0 kk1
                have tD2 : rT (D n) N2 14 := hw.fx rfl (fun y hy => y2 y (by omega) (by omega))
                have hLD : jLV (D n) := by have := hI.L; unfold jLV at this ⊢; rw [D19]; exact this
                rw [wI 1 (by omega) (by omega), wI 2 (by omega) (by omega), wI 3 (by omega) (by omega), wI 4 (by omega) (by omega), y2 10 (by decide) (by decide), q0, q1]
                refine ⟨by rw [jal_28_9]; omega, b35, b35, b32, bI0, bI 1 (by omega) (by omega), jc mv0 (by decide) ⟨bI 2 (by omega) (by omega), ?_⟩⟩
                rw [y2 10 (by decide) (by decide), q2]
                refine jc (mv 1 (by omega) (by omega)) (by decide) ⟨bI 3 (by omega) (by omega), ?_⟩
                rw [y2 10 (by decide) (by decide), q3]
                refine jc (mv 2 (by omega) (by omega)) (by decide) ⟨bI 4 (by omega) (by omega), ?_⟩
                rw [y2 10 (by decide) (by decide), q4, jno_ge (v := nE (D n) (C c 6 (3 * n))) (by have := o0.1; have := o0.2.2.2; rw [D19] at this; omega)]
                refine jcq (m_put (M := N2) (t := 14) (m := C c 7 n) hLD rD2 tD2 w.1 (by omega) KC lt14 o0 o1 o2 (fun h => jno_ge (by have := o1.1; have := o1.2.2.2; omega)) (fun h => jno_ge (by have := o2.1; have := o2.2.2.2; omega))) (by decide) ?_
                rintro r4 M4 ⟨p1, p2, p3⟩
                rw [jwr_id (by omega) (by omega), en]
                refine ih (n + 1) M4 L' (by omega) (hf2.tr p2.c) (ho2.tr p2.o) (by rw [p2.1 33 (by omega), y2 33 (by decide) (by decide), k1]) (by rw [p2.1 34 (by omega), y2 34 (by decide) (by decide), k2]) (by unfold rT at p1 ⊢; rw [fb3']; exact p1) (by rw [p3, y2 8 (by decide) (by decide), hl]) (fun v v0 v1 => by rw [p2.1 31 (by omega), y2 31 (by decide) (by decide)]; exact h31 v v0 v1) (fun i i0 i1' => ?_) (fun i i0 i1' hi => ?_) (hL'.congr (fun i i0 i1' => ?_))
                · rw [p2.1 35 (by omega)]
                  by_cases u : i = n
                  · rw [u, v35, fb2', jno_ge n14.1]
                  · rw [u35 i u, fb1 i u]; exact h35 i i0 (by omega)
                · rw [p2.1 32 (by omega)]
                  by_cases u : i = n
                  · rw [u, v32, fb2']
                  · rw [fb1 i u] at hi ⊢
                    rw [u32 i u]; exact h32 i i0 (by omega) hi
                · constructor
                  · rintro (q | q | q)
                    · exact Or.inl ⟨by omega, by rw [fb1 i (by omega)]; exact q.2⟩
                    · exact Or.inr ⟨by omega, q.2⟩
                    · exact absurd hpa (hg.mp q.2)
                  · rintro (q | q)
                    · by_cases u : i = n
                      · rw [u, fb2'] at q; omega
                      · exact Or.inl ⟨by omega, by rw [← fb1 i u]; exact q.2⟩
                    · exact Or.inr (Or.inl ⟨by omega, q.2⟩)
            · have sq : N 28 10 (84 * c + 6 * (n : Int) + 1 + q) = jno (C c 6 (3 * n + q)) := by
                have cs : q = 0 ∨ q = 1 ∨ q = 2 := by omega
                rcases cs with e | e | e
                · rw [e, Int.add_zero, Int.add_zero, q1]
                · rw [e, show (84 * c + 6 * (n : Int) + 1 + 1 : Int) = 84 * c + 6 * n + 2 by omega, q2]
                · rw [e, show (84 * c + 6 * (n : Int) + 1 + 2 : Int) = 84 * c + 6 * n + 3 by omega, q3]
              have e0 : 0 ≤ C c 6 (3 * n + q) := by have := hCs q qq0 (by omega); have := hEs q qq0 (by omega); omega
              have es := hEs q qq0 (by omega)
              have noadd : ¬ (10 ≤ C c 6 (3 * n + q) ∧ D n 26 7 (C c 6 (3 * n + q) - 10) = -1) → jWP 5 108 326 [some (.inr (28, 0)), some (.inl a), some (.inl b), some (.inl c), some (.inl d), some (.inl L0), some (.inl (jior L' 0)), some (.inl (n : Int)), some (.inl (84 * c + 6 * (n : Int))), some (.inl (q + 1)), none, none, none] [] N Q := fun h => ih2 _ ((hL'.or isM_0).congr (fun i i0 i1' => ⟨fun p => ?_, fun p => ?_⟩))
              rotate_left
              · rcases p with (p | p | ⟨p1, p2⟩) | p
                · exact Or.inl p
                · exact Or.inr (Or.inl p)
                · refine Or.inr (Or.inr ⟨p1, p2.imp id (fun ⟨u, uu, u2⟩ => ⟨u, by omega, u2⟩)⟩)
                · exact p.elim
              · rcases p with p | p | ⟨p1, p2⟩
                · exact Or.inl (Or.inl p)
                · exact Or.inl (Or.inr (Or.inl p))
                · refine Or.inl (Or.inr (Or.inr ⟨p1, p2.imp id (fun ⟨u, uu, u2, u3⟩ => ⟨u, ?_, u2, u3⟩)⟩))
                  have : ¬ u = q := fun e => by rw [e] at u2 u3; exact h ⟨u2, u3⟩
                  omega
              have add : (10 ≤ C c 6 (3 * n + q) ∧ D n 26 7 (C c 6 (3 * n + q) - 10) = -1) → jWP 5 108 326 [some (.inr (28, 0)), some (.inl a), some (.inl b), some (.inl c), some (.inl d), some (.inl L0), some (.inl (jior L' (jishl 1 n))), some (.inl (n : Int)), some (.inl (84 * c + 6 * (n : Int))), some (.inl (q + 1)), none, none, none] [] N Q := fun h => ih2 _ ((hL'.or (isM_bit (k := n) (by omega) (by omega))).congr (fun i i0 i1' => ⟨fun p => ?_, fun p => ?_⟩))
              rotate_left
              · rcases p with (p | p | ⟨p1, p2⟩) | p
                · exact Or.inl p
                · exact Or.inr (Or.inl p)
                · refine Or.inr (Or.inr ⟨p1, p2.imp id (fun ⟨u, uu, u2⟩ => ⟨u, by omega, u2⟩)⟩)
                · exact Or.inr (Or.inr ⟨p, Or.inr ⟨q, by omega, h⟩⟩)
              · rcases p with p | p | ⟨p1, p2⟩
                · exact Or.inl (Or.inl p)
                · exact Or.inl (Or.inr (Or.inl p))
                · exact Or.inr p1
              refine fX10_series_326 ⟨bI0, ?_⟩
              rw [q0, pk, wI 1 (by omega) (by omega), jwr_id (z := 84 * c + 6 * (n : Int) + 1 + q) (by omega) (by omega), jwr_id (z := q + 1) (by omega) (by omega), sq, jno_ge e0]
              refine ⟨bK, fun z => by exfalso; omega, fun _ => ⟨by rw [jal_28_10]; omega, fun z => noadd (fun h => by omega), fun z => ?_⟩⟩
              rw [jwr_id (z := C c 6 (3 * n + q) - 10) (by omega) (by omega)]
              have tst := hL'.test (k := C c 6 (3 * n + q) - 10) (by omega) (by omega)
              have tst1 := hL'.test1 (k := C c 6 (3 * n + q) - 10) (by omega) (by omega)
              have hm : ((C c 6 (3 * n + q) - 10 < n ∧ D n 26 7 (C c 6 (3 * n + q) - 10) = -1) ∨ ((n : Int) < C c 6 (3 * n + q) - 10 ∧ lsN F A (C a 0 1) (C c 6 (3 * n + q) - 10)) ∨ (C c 6 (3 * n + q) - 10 = n ∧ (lsN F A (C a 0 1) n ∨ ∃ u, (0 ≤ u ∧ u < q) ∧ 10 ≤ C c 6 (3 * n + u) ∧ D n 26 7 (C c 6 (3 * n + u) - 10) = -1))) ↔ D n 26 7 (C c 6 (3 * n + q) - 10) = -1 := by
                constructor
                · rintro (p | p | p)
                  · exact p.2
                  · omega
                  · omega
                · intro p
                  exact Or.inl ⟨by omega, p⟩
              rw [hm] at tst
              refine ⟨fun z2 => noadd (fun h => ?_), fun z2 => add ⟨z, ?_⟩⟩
              · exact tst.mp (by omega) h.2
              · apply Classical.byContradiction
                intro h
                have := tst.mpr h
                omega
          refine fX10_series_304 ⟨b9c, fun z => by rw [Tc.2.1] at z; exfalso; omega, fun _ => jc (m_at N (t := c) (e := n) (by omega) (by omega)) (by decide) (k326 0 (by omega) (by omega) L (hL.congr (fun i i0 i1' => ?_)))⟩
          constructor
          · rintro (p | p)
            · exact Or.inl p
            · by_cases u : i = n
              · exact Or.inr (Or.inr ⟨u, Or.inl (by rw [← u]; exact p.2)⟩)
              · exact Or.inr (Or.inl ⟨by omega, p.2⟩)
          · rintro (p | p | ⟨p1, p2⟩)
            · exact Or.inl p
            · exact Or.inr ⟨by omega, p.2⟩
            · rcases p2 with p2 | ⟨u, uu, -⟩
              · exact Or.inr ⟨by omega, by rw [p1]; exact p2⟩
              · omega
      -- the things
      have things : ∀ L, isM L (lsN F A (C a 0 1)) → ∀ v, 0 ≤ v → v ≤ 6 → ∀ N, fC M3 N → o14 M3 N → N 28 33 = M3 28 33 → N 28 34 = M3 28 34 → N 28 6 14 = C c 0 0 → N 28 9 14 = 0 → N 28 8 14 = C c 0 2 → (∀ u, 0 ≤ u → u < v → N 28 31 u = u ∧ N 28 7 (84 + u) = M3 28 7 (6 * c + u)) → jWP 5 108 257 [some (.inr (28, 0)), some (.inl a), some (.inl b), some (.inl c), some (.inl d), some (.inl L0), some (.inl L), some (.inl v), none, none, none, none, none] [] N Q := by
        intro L hL
        refine jloop (e := 6) (fun N hf ho k1 k2 k6 k9 k8 h => ?_) (fun v v0 v1 ih N hf ho k1 k2 k6 k9 k8 h => ?_)
        · refine fX10_series_257 ⟨fun _ => ?_, fun z => by exfalso; omega⟩
          have e0 : D 0 = S := by rw [← hD]; rfl
          refine left (C c 0 1).toNat 0 N L (by omega) hf ho k1 k2 ?_ k8 (fun u u0 u1 => (h u u0 u1).1) (fun i i0 i1 => by omega) (fun i i0 i1 => by omega) (hL.congr (fun i i0 i1 => ⟨fun q => Or.inr ⟨by omega, q⟩, fun q => ?_⟩))
          · rw [e0]
            refine ⟨by rw [k6, t0], by rw [k9, t1], fun x x0 x1 => ?_, fun i i0 i1 => by rw [t1] at i1; omega⟩
            rw [t0] at x1
            rw [show (6 * 14 + x : Int) = 84 + x by omega, (h x x0 (by omega)).2, (hR3.2.1 c hc.1 (by omega)).2.2.1 x x0 x1, (t3 x x0 x1).1]
          · rcases q with q | q
            · omega
            · exact q.2
        · have w1 : jwr (jwr (6 * c) + v) = 6 * c + v := by rw [jwr_id (z := 6 * c) (by omega) (by omega), jwr_id (by omega) (by omega)]
          refine fX10_series_257 ⟨fun z => by exfalso; omega, fun _ => ?_⟩
          rw [w1, jwr_id (z := 84 + v) (by omega) (by omega), jwr_id (z := v + 1) (by omega) (by omega), ho.2.1 (6 * c + v) (by omega)]
          refine ⟨by rw [jal_28_7]; omega, by rw [jal_28_7]; omega, by rw [jal_28_31]; omega, ?_⟩
          have ow : own 14 N (jup N 28 7 (84 + v) (M3 28 7 (6 * c + v))) := own_7 (by omega)
          have yy : ∀ y, ¬ y = 7 → ¬ y = 31 → jup (jup N 28 7 (84 + v) (M3 28 7 (6 * c + v))) 28 31 v v 28 y = N 28 y := fun y h h' => by rw [jup_set, jset_ne (by omega), jup_set, jset_ne (by omega)]
          refine ih _ ((hf.tr ow.c).tr (fC_x (by omega))) ((ho.tr ow.o).tr (o14_x (by omega))) (by rw [yy 33 (by decide) (by decide), k1]) (by rw [yy 34 (by decide) (by decide), k2]) (by rw [yy 6 (by decide) (by decide), k6]) (by rw [yy 9 (by decide) (by decide), k9]) (by rw [yy 8 (by decide) (by decide), k8]) (fun u u0 u1 => ?_)
          by_cases e : u = v
          · rw [e, jup_eq, jup_ne (by simp), jup_eq]
            exact ⟨rfl, rfl⟩
          · rw [jup_ne (by omega), jup_ne (by simp), jup_ne (by simp), jup_ne (by omega)]
            exact h u u0 (by omega)
      -- what is lost
      have lost : ∀ i, 0 ≤ i → i ≤ C a 0 1 → ∀ L, isM L (lsN F A i) → jWP 5 108 174 [some (.inr (28, 0)), some (.inl a), some (.inl b), some (.inl c), some (.inl d), some (.inl L0), some (.inl L), some (.inl i), none, none, none, none, none] [] M3 Q := by
        have Ta := hR3.2.1 a ha.1 (by omega)
        refine jloop (e := C a 0 1) (fun L hL => ?_) (fun i i0 i1 ih L hL => ?_)
        · refine fX10_series_174 ⟨b9a, fun _ => ⟨by rw [jal_28_6]; omega, jcq (m_empty (t := 14) (by omega)) (by decide) ?_⟩, fun z => by rw [Ta.2.1] at z; exfalso; omega⟩
          rintro r4 M4 ⟨p6, p9, p8, p7, o4⟩
          refine ⟨by rw [jal_28_8]; omega, by rw [jal_28_8]; omega, ?_⟩
          have ow := o4.tr (own_8 (t := 14) (v := M4 28 8 c))
          refine things L hL 0 (by omega) (by omega) _ ow.c ow.o (ow.1 33 (by omega)) (ow.1 34 (by omega)) (by rw [jup_ne (by simp), p6, (hR3.2.1 c hc.1 (by omega)).1]) (by rw [jup_ne (by simp), p9]) ?_ (fun u u0 u1 => by omega)
          rw [jup_eq, (o4.2.2.1 c (by omega)).2.2, hR3.2.2.1 c hc.1 hc.2]
        · obtain ⟨a1, a2, a3⟩ := hans2 i i0 i1
          have f1' := hFb i
          have no : ¬ (F i = -1 ∧ ¬ A i = -1) → jWP 5 108 174 [some (.inr (28, 0)), some (.inl a), some (.inl b), some (.inl c), some (.inl d), some (.inl L0), some (.inl (jior L 0)), some (.inl (jwr (i + 1))), none, none, none, none, none] [] M3 Q := fun h => by
            rw [jwr_id (by omega) (by omega)]
            refine ih _ ((hL.or isM_0).congr (fun j j0 j1 => ⟨fun q => ?_, fun q => ?_⟩))
            · rcases q with ⟨k, k0, k1, k2⟩ | q
              · exact ⟨k, k0, by omega, k2⟩
              · exact q.elim
            · obtain ⟨k, k0, k1, k2, k3, k4⟩ := q
              by_cases u : k = i
              · rw [u] at k2 k3; exact absurd ⟨k2, k3⟩ h
              · exact Or.inl ⟨k, k0, by omega, k2, k3, k4⟩
          refine fX10_series_174 ⟨b9a, fun z => by rw [Ta.2.1] at z; exfalso; omega, fun _ => ⟨b34 i i0 (by omega), ?_⟩⟩
          rw [m34 i i0 i1, a1]
          refine ⟨fun z => no (fun h => by rw [h.1] at z; exact absurd z (by decide)), fun z => ⟨b12 i i0 (by omega), fun z2 => no (fun h => h.2 ((jno_lt a2).mp z2)), fun z2 => ⟨b12 i i0 (by omega), ?_⟩⟩⟩
          have A0 : 0 ≤ A i := by
            apply Classical.byContradiction
            intro q
            rw [jno_neg (by omega)] at z2
            exact absurd z2 (by decide)
          have F1 : F i = -1 := (jno_lt f1'.1).mp z
          rw [jno_ge A0, jwr_id (by omega) (by omega)]
          refine ih _ ((hL.or (isM_bit (k := A i) A0 (by omega))).congr (fun j j0 j1 => ⟨fun q => ?_, fun q => ?_⟩))
          · rcases q with ⟨k, k0, k1, k2⟩ | q
            · exact ⟨k, k0, by omega, k2⟩
            · exact ⟨i, i0, by omega, F1, by omega, q.symm⟩
          · obtain ⟨k, k0, k1, k2, k3, k4⟩ := q
            by_cases u : k = i
            · exact Or.inr (by rw [← k4, u])
            · exact Or.inl ⟨k, k0, by omega, k2, k3, k4⟩
      exact lost 0 (by omega) (by omega) 0 (isM_0.congr (fun j j0 j1 => ⟨fun q => q.elim, fun ⟨k, k0, k1, _⟩ => by omega⟩))
    -- the first answers are noted
    have k88 : ∀ i, 0 ≤ i → i ≤ C a 0 1 → ∀ (N : jM) L, isM L (cmeN F i) → (∀ x, 0 ≤ x → x < 6 → N 28 33 x = M1 28 11 x) → (∀ k, 0 ≤ k → k < i → N 28 34 k = M1 28 12 k) → (∀ x y, ¬ (x = 28 ∧ (y = 33 ∨ y = 34)) → N x y = M1 x y) → jWP 5 108 88 [some (.inr (28, 0)), some (.inl a), some (.inl b), some (.inl c), some (.inl d), some (.inl L), some (.inl i), none, none, none, none, none, none] [] N Q := by
      refine jloop (e := C a 0 1) (fun N L hL n33 n34 f => ?_) (fun i i0 i1 ih N L hL n33 n34 f => ?_)
      · have fN := sc N f
        have hRN := hR1.sc fN (cR_r C)
        have hl2 := m_likeness (M := N) (lv := 0) (tm := tm) hG2 (hRN.mR ⟨ha.1, by omega⟩ ⟨hc.1, by omega⟩) (by omega)
        have nx := fun r M3 h => second L hL r M3 N fN (fun x x0 x1 => by rw [n33 x x0 (by omega)]; exact hrow x x0 x1) (fun k k0 k1 => by rw [n34 k k0 k1]; exact (hans k k0 k1).1) h
        refine fX10_series_88 ⟨b9a, fun _ => ?_, fun z => by rw [(hRN.2.1 a ha.1 (by omega)).2.1] at z; exfalso; omega⟩
        rw [f 28 0 (by simp), f1.2.2 4 (by decide), hm4]
        refine ⟨fun z => ?_, fun z => ?_⟩
        · rw [show tm = 0 by omega] at hl2 nx
          exact jcq hl2 (by decide) nx
        · rw [z] at hl2 nx
          exact jcq hl2 (by decide) nx
      · obtain ⟨a1, a2, a3⟩ := hans i i0 i1
        have fb := hFb i
        have Ta := (hR1.sc (sc N f) (cR_r C)).2.1 a ha.1 (by omega)
        have nx : ∀ L', isM L' (cmeN F (i + 1)) → jWP 5 108 88 [some (.inr (28, 0)), some (.inl a), some (.inl b), some (.inl c), some (.inl d), some (.inl L'), some (.inl (i + 1)), none, none, none, none, none, none] [] (jup N 28 34 i (M1 28 12 i)) Q := fun L' hL' => ih _ L' hL' (fun x x0 x1 => by rw [jup_ne (by simp)]; exact n33 x x0 x1) (fun k k0 k1 => by
          by_cases u : k = i
          · rw [u, jup_eq]
          · rw [jup_ne (by omega)]; exact n34 k k0 (by omega)) (fun x y h => by rw [jup_set, jset_ne (by omega), f x y h])
        refine fX10_series_88 ⟨b9a, fun z => by rw [Ta.2.1] at z; exfalso; omega, fun _ => ⟨b12 i i0 (by omega), b34 i i0 (by omega), b12 i i0 (by omega), ?_⟩⟩
        rw [f 28 12 (by simp), show jup N 28 34 i (M1 28 12 i) 28 12 i = jno (F i) by rw [jup_ne (by simp), f 28 12 (by simp), a1], jwr_id (z := i + 1) (by omega) (by omega)]
        refine ⟨fun z => nx _ ((hL.or isM_0).congr (fun j j0 j1 => ⟨fun q => ?_, fun q => ?_⟩)), fun z => ⟨b12 i i0 (by omega), ?_⟩⟩
        · rcases q with ⟨k, k0, k1, k2⟩ | q
          · exact ⟨k, k0, by omega, k2⟩
          · exact q.elim
        · obtain ⟨k, k0, k1, k2, k3⟩ := q
          by_cases u : k = i
          · rw [u] at k2; have := (jno_lt fb.1).mp z; omega
          · exact Or.inl ⟨k, k0, by omega, k2, k3⟩
        · have F0 : 0 ≤ F i := by
            apply Classical.byContradiction
            intro q
            rw [jno_neg (by omega)] at z
            exact absurd z (by decide)
          rw [jno_ge F0]
          refine nx _ ((hL.or (isM_bit (k := F i) F0 (by omega))).congr (fun j j0 j1 => ⟨fun q => ?_, fun q => ?_⟩))
          · rcases q with ⟨k, k0, k1, k2⟩ | q
            · exact ⟨k, k0, by omega, k2⟩
            · exact ⟨i, i0, by omega, F0, q.symm⟩
          · obtain ⟨k, k0, k1, k2, k3⟩ := q
            by_cases u : k = i
            · exact Or.inr (by rw [← k3, u])
            · exact Or.inl ⟨k, k0, by omega, k2, k3⟩
    have k58 : ∀ v, 0 ≤ v → v ≤ 6 → ∀ N : jM, (∀ x, 0 ≤ x → x < v → N 28 33 x = M1 28 11 x) → (∀ x y, ¬ (x = 28 ∧ (y = 33 ∨ y = 34)) → N x y = M1 x y) → jWP 5 108 58 [some (.inr (28, 0)), some (.inl a), some (.inl b), some (.inl c), some (.inl d), some (.inl 0), some (.inl v), none, none, none, none, none, none] [] N Q := by
      refine jloop (e := 6) (fun N h f => ?_) (fun v v0 v1 ih N h f => ?_)
      · exact fX10_series_58 ⟨fun _ => k88 0 (by omega) (by omega) N 0 (isM_0.congr (fun j j0 j1 => ⟨fun q => q.elim, fun ⟨k, k0, k1, _⟩ => by omega⟩)) h (fun k k0 k1 => by omega) f, fun z => by exfalso; omega⟩
      · refine fX10_series_58 ⟨fun z => by exfalso; omega, fun _ => ⟨b11 v v0 v1, b33 v v0 v1, ?_⟩⟩
        rw [jwr_id (by omega) (by omega), f 28 11 (by simp)]
        refine ih _ (fun x x0 x1 => ?_) (fun x y q => by rw [jup_set, jset_ne (by omega), f x y q])
        by_cases u : x = v
        · rw [u, jup_eq]
        · rw [jup_ne (by omega)]; exact h x x0 (by omega)
    exact k58 0 (by omega) (by omega) M1 (fun x x0 x1 => by omega) (fun _ _ _ => rfl)
  have hl1 := m_likeness (M := M) (lv := 0) (tm := tm) hG1 (hR.mR ⟨ha.1, by omega⟩ ⟨hb.1, by omega⟩) (by omega)
  rw [hm4]
  refine ⟨fun z => ?_, fun z => ?_⟩
  · rw [show tm = 0 by omega] at hl1 go
    exact jcq hl1 (by decide) go
  · rw [z] at hl1 go
    exact jcq hl1 (by decide) go
