/-! the reference: common -/
def fC (M M' : jM) : Prop := f28 M M' ∧ (∀ y, ¬ (6 ≤ y ∧ y ≤ 10) → ¬ (31 ≤ y ∧ y ≤ 36) → M' 28 y = M 28 y)
theorem fC_r (M : jM) : fC M M := ⟨f28_r M, fun _ _ _ => rfl⟩
theorem fC.tr {M M' M'' : jM} (h : fC M M') (h' : fC M' M'') : fC M M'' := ⟨h.1.tr h'.1, fun y q q' => by rw [h'.2 y q q', h.2 y q q']⟩
theorem own.c {t : Int} {M M' : jM} (h : own t M M') : fC M M' := ⟨h.2.1, fun y q _ => h.1 y q⟩
theorem fC_x {M : jM} {y : Nat} {j v : Int} (hy : 31 ≤ y ∧ y ≤ 36) : fC M (jup M 28 y j v) := ⟨f28_up, fun z _ q => by rw [jup_set, jset_ne (by omega)]⟩
/-- all tales but the one that is made stay, and the language -/
def o14 (M M' : jM) : Prop := (∀ u, ¬ u = 14 → M' 28 6 u = M 28 6 u ∧ M' 28 9 u = M 28 9 u ∧ M' 28 8 u = M 28 8 u) ∧ (∀ c, (c < 84 ∨ 90 ≤ c) → M' 28 7 c = M 28 7 c) ∧ (∀ c, (c < 1176 ∨ 1260 ≤ c) → M' 28 10 c = M 28 10 c)
theorem own.o {M M' : jM} (h : own 14 M M') : o14 M M' := ⟨h.2.2.1, fun c q => h.2.2.2.1 c (by omega), fun c q => h.2.2.2.2 c (by omega)⟩
theorem o14_r (M : jM) : o14 M M := ⟨fun _ _ => ⟨rfl, rfl, rfl⟩, fun _ _ => rfl, fun _ _ => rfl⟩
theorem o14.tr {M M' M'' : jM} (h : o14 M M') (h' : o14 M' M'') : o14 M M'' := ⟨fun u hu => by
  obtain ⟨a, b, c⟩ := h.1 u hu
  obtain ⟨d, e, f⟩ := h'.1 u hu
  exact ⟨by rw [d, a], by rw [e, b], by rw [f, c]⟩, fun c q => by rw [h'.2.1 c q, h.2.1 c q], fun c q => by rw [h'.2.2 c q, h.2.2 c q]⟩
theorem o14_x {M : jM} {y : Nat} {j v : Int} (hy : 31 ≤ y ∧ y ≤ 36) : o14 M (jup M 28 y j v) := ⟨fun u _ => ⟨jup_ne (by omega), jup_ne (by omega), jup_ne (by omega)⟩, fun c _ => jup_ne (by omega), fun c _ => jup_ne (by omega)⟩
theorem o14.tl {C C' M M' : jM} {u : Int} (h : o14 M M') (hu : 0 ≤ u ∧ u < 14) (hN : jNB C u) (hR : rT C M u) (hC : C' u = C u) : rT C' M' u := by
  obtain ⟨a3, a4, a5⟩ := h
  obtain ⟨r6, r9, r7, r10⟩ := hR
  have n1 := hN.1
  have n2 := hN.2
  have a := a3 u (by omega)
  refine ⟨by rw [a.1, r6, hC], by rw [a.2.1, r9, hC], fun x x0 x1 => ?_, fun i i0 i1 => ?_⟩
  · rw [hC] at x1 ⊢
    rw [a4 _ (by omega)]; exact r7 x x0 x1
  · rw [hC] at i1 ⊢
    rw [a5 _ (by omega), a5 _ (by omega), a5 _ (by omega), a5 _ (by omega), a5 _ (by omega), a5 _ (by omega)]
    exact r10 i i0 i1
theorem fC.lg {C C' M M' : jM} (h : fC M M') (hR : rL C M) (hC : C' 19 = C 19) : rL C' M' := fun k k0 k1 => by
  rw [h.2 1 (by omega) (by omega), h.2 2 (by omega) (by omega), h.2 3 (by omega) (by omega), h.2 4 (by omega) (by omega), hC]
  exact hR k k0 k1
/-- what the reference has while it weaves: D is the world of the class -/
def mW (D M : jM) : Prop := rL D M ∧ rT D M 14
/-- a tie is brought over by the reference -/
theorem m_bring {D M : jM} {g i k m : Int} (hL : jLV D) (hW : jWk D) (hm : mW D M) (hg : 0 ≤ g ∧ g < 14) (hGg : jGood D g) (hTg : rT D M g) (hi : 0 ≤ i ∧ i < D g 0 1) (hs : D 19 1 k = D 19 1 (D g 5 i)) (ha : aE D g i) (hk : isK k) (hlen : D 14 0 1 < 14) :
    jCallP 3 105 [.inr (28, 0), .inl k, .inl (jno (nE D (D g 6 (3 * i)))), .inl (jno (nE D (D g 6 (3 * i + 1)))), .inl (jno (nE D (D g 6 (3 * i + 2)))), .inl m] M (fun r M' => r = brg D g i k m 26 7 i ∧ 0 ≤ r ∧ mW (brg D g i k m) M' ∧ own 14 M M' ∧ M' 28 8 14 = M 28 8 14) := by
  have hN : D g 0 0 ≤ 6 ∧ D g 0 1 ≤ 14 := ⟨hGg.1.2.1.1.2, hGg.1.2.1.2.2⟩
  have o0 := nE_ok (q := 0) hW hGg.2.1 hGg.2.2.2.2 hN hi hs ha (by omega)
  rw [Int.add_zero] at o0
  have o1 := nE_ok (q := 1) hW hGg.2.1 hGg.2.2.2.2 hN hi hs ha (by omega)
  have o2 := nE_ok (q := 2) hW hGg.2.1 hGg.2.2.2.2 hN hi hs ha (by omega)
  obtain ⟨-, b2, b3⟩ := brg_26 D g i k m
  have bf := brg_fr D g i k m
  refine (m_add (M := M) (m := m) hL hm.1 hm.2 hW.1 hk o0 o1 o2 (Or.inr hlen)).mono ?_
  rintro r M' ⟨e1, e2, e3, e4⟩
  have n14 := hW.1.1.2.1.2
  have fb := jfst_bd (mtie D 14 k (nE D (D g 6 (3 * i))) (nE D (D g 6 (3 * i + 1))) (nE D (D g 6 (3 * i + 2)))) (D 14 0 1).toNat
  refine ⟨by rw [e1, b2], ?_, ⟨e3.c.lg hm.1 (by funext y; exact bf.1 19 y (by simp) (by simp)), ?_⟩, e3, e4⟩
  · rw [e1]
    unfold fopN
    split
    · rename_i h
      unfold fnd at h ⊢
      omega
    · exact n14.1
  · obtain ⟨r6, r9, r7, r10⟩ := e2
    unfold rT
    rw [b3]
    exact ⟨r6, r9, r7, r10⟩
theorem rel.made {C M M' : jM} (hI : Inv C) (h : rel C M) (hc : fC M M') (ho : o14 M M') : rel C M' := by
  obtain ⟨h1, h2, h3, h4, h5⟩ := h
  have e0 : M' 28 0 = M 28 0 := hc.2 0 (by omega) (by omega)
  exact ⟨hc.lg h1 rfl, fun t t0 t1 => ho.tl ⟨t0, t1⟩ (hI.N t0 t1) (h2 t t0 t1) rfl, fun t t0 t1 => by rw [(ho.1 t (by omega)).2.2]; exact h3 t t0 t1, h4.fx rfl rfl (by rw [e0]; exact ⟨rfl, rfl, rfl⟩) (hc.2 21 (by omega) (by omega)) (hc.2 22 (by omega) (by omega)), h5.fx rfl e0⟩
theorem cP_hit {P : Int → Prop} {z : Int} (z0 : 0 ≤ z) : ∀ n : Nat, z < cP P n → ∃ x : Nat, x < n ∧ P x ∧ cP P x = z
  | 0, h => by
    have : cP P 0 = 0 := rfl
    omega
  | n + 1, h => by
    by_cases u : z < cP P n
    · obtain ⟨x, x1, x2, x3⟩ := cP_hit z0 n u
      exact ⟨x, by omega, x2, x3⟩
    · rw [cP_succ] at h
      by_cases v : P n
      · rw [if_pos v] at h
        exact ⟨n, by omega, v, by omega⟩
      · rw [if_neg v] at h
        omega
theorem m_common {C M C' : jM} {a b c l r0 : Int} (hI : Inv C) (hR : rel C M) (hs : s_common C a b c l r0 C') : jCallP 5 106 [.inr (28, 0), .inl a, .inl b, .inl c, .inl l] M (fun r M' => r = r0 ∧ rel C' M' ∧ f28 M M') := by
  refine jstart (by decide) rfl (fX10_common_0 ?_)
  refine jc (m_isTale M a) (by decide) ⟨fun q => ?_, fun q => ?_⟩
  · obtain ⟨e1, rfl⟩ := jif_n hs (fun h => jite_eq.mp q h.1)
    exact ⟨e1.symm, hR, f28_r M⟩
  have ha := jite_ne.mp q
  refine jc (m_isTale M b) (by decide) ⟨fun q => ?_, fun q => ?_⟩
  · obtain ⟨e1, rfl⟩ := jif_n hs (fun h => jite_eq.mp q h.2.1)
    exact ⟨e1.symm, hR, f28_r M⟩
  have hb := jite_ne.mp q
  refine jc (m_isTale M c) (by decide) ⟨fun q => ?_, fun q => ?_⟩
  rotate_left
  · obtain ⟨e1, rfl⟩ := jif_n hs (fun h => jite_eq.mp q h.2.2)
    exact ⟨e1.symm, hR, f28_r M⟩
  have hc := jite_ne.mp q
  have hs := jif_y hs ⟨ha, hb, hc⟩
  refine jc (m_isLevel M l) (by decide) ⟨fun q => ?_, fun q => ?_⟩
  rotate_left
  · obtain ⟨e1, rfl⟩ := jif_n hs (fun h => jite_eq.mp q h)
    exact ⟨e1.symm, hR, f28_r M⟩
  have hl := jite_ne.mp q
  have hs := jif_y hs hl
  refine ⟨fun z => ?_, fun z => ⟨fun z2 => ?_, fun z2 => ?_⟩⟩
  · obtain ⟨e1, rfl⟩ := jif_y hs (Or.inl z)
    exact ⟨e1.symm, hR, f28_r M⟩
  rotate_left
  · obtain ⟨e1, rfl⟩ := jif_y hs (Or.inr z2)
    exact ⟨e1.symm, hR, f28_r M⟩
  obtain ⟨R, T, S, hB, tf, ⟨h1, h2, h3⟩, ag, lb, er, fr, -⟩ := jif_n hs (by omega)
  have hm4 : M 28 0 4 = C 18 0 8 := hR.2.2.2.2.1
  have htm := hI.tm
  have hG := hI.gd (a := a) (b := b) ⟨ha.1, by omega⟩ ⟨hb.1, by omega⟩
  have hMR := hR.mR (a := a) (b := b) ⟨ha.1, by omega⟩ ⟨hb.1, by omega⟩
  have na1 := hG.2.1.1.2.1.1
  have na2 := hG.2.1.1.2.1.2
  have nb1 := hG.2.2.1.1.2.1.1
  have nb2 := hG.2.2.1.1.2.1.2
  generalize htme : C 18 0 8 = tm at hB ag lb er h3 hm4 htm
  have eTg : ∀ g, 0 ≤ g ∧ g < 14 → T g = C g := fun g h => by funext y; exact tf g y (by omega)
  have eT19 : T 19 = C 19 := by funext y; exact tf 19 y (by omega)
  have eTa := eTg a (by omega)
  have eTb := eTg b (by omega)
  have hv := hB.1
  have hp : ∀ x, -1 ≤ R x := fun x => by rcases hv.1 x with e | e <;> omega
  have hends := fun n hn => ans_ends (lv := l) (tm := tm) (R := R) hG (n := n) hn hp
  have Abd : ∀ i, -1 ≤ ans C a b l 0 tm R i ∧ ans C a b l 0 tm R i < C b 0 1 := fun i => ansF_bd C a b l 0 tm R nb2.1 (C a 0 1).toNat i
  unfold cmD at ag lb er
  generalize hA : ans C a b l 0 tm R = A at ag lb er h3 hends Abd
  rw [eTa] at ag lb er h1
  obtain ⟨t0, t1, t2, t3, t4, t5, t6, t7⟩ := h1
  have eSg : ∀ g, 0 ≤ g ∧ g < 14 → S g = C g := fun g h => by rw [← eTg g h]; funext y; exact t7 g y (by omega) (by omega)
  have eS19 : S 19 = C 19 := by rw [← eT19]; funext y; exact t7 19 y (by simp) (by simp)
  generalize hD : wv a (fun i => 0 ≤ A i) (cK T a b A) (fun _ => -1) S = D at ag lb er
  generalize hQ : (fun (r : Int) (M' : jM) => r = r0 ∧ rel C' M' ∧ f28 M M') = Q
  have go : ∀ r1 M1, (∃ R', best C a b l tm 0 R' ∧ r1 = wth C a b l 0 tm R' ∧ mRow C M1 a R' ∧ mAns C M1 b (ans C a b l 0 tm R') (C a 0 1) ∧ M1 28 0 15 = prs C a R' ∧ (∀ q, vld C a b q → wth C a b l 1 tm q ≤ M1 28 0 16) ∧ (∃ q, vld C a b q ∧ wth C a b l 1 tm q = M1 28 0 16) ∧ fL M M1) → jCall 5 55 [.inr (28, 0), .inl 14, .inl 0] M1 (fun _ M6 => jWP 5 106 79 [some (.inr (28, 0)), some (.inl a), some (.inl b), some (.inl c), some (.inl l), some (.inl 0), none, none, none] [] M6 Q) := by
    rintro r1 M1 ⟨R', hB', -, hrow, hans, -, -, -, f1⟩
    have eR : R' = R := best_one nb1.2 hB' hB
    subst eR
    rw [hA] at hans
    have hR1 : rel C M1 := hR.sc f1.s (cR_r C)
    refine jcq (m_empty (t := 14) (n := 0) (by omega)) (by decide) ?_
    rintro r2 M2 ⟨p6, p9, p8, p7, o2⟩
    -- the ties
    have ties : ∀ (j n : Nat) (N : jM), ((n + j : Nat) : Int) = C a 0 1 → fC M1 N → o14 M1 N → mW (D n) N → N 28 8 14 = 0 → (∀ x, 0 ≤ x → x < C a 0 0 → 0 ≤ R' x → N 28 31 x = S 26 6 x ∧ 0 ≤ S 26 6 x) → (∀ i : Int, 0 ≤ i → i < n → 0 ≤ A i → N 28 32 i = D n 26 7 i ∧ 0 ≤ D n 26 7 i) → jWP 5 106 211 [some (.inr (28, 0)), some (.inl a), some (.inl b), some (.inl c), some (.inl l), some (.inl (n : Int)), none, none, none] [] N Q := by
      intro j
      induction j with
      | zero =>
        intro n N hn hf ho hw h8 hx ht
        have eN : (C a 0 1).toNat = n := by omega
        have hRN := hR1.made hI hf ho
        have c9 : 0 ≤ c ∧ c < jal 28 9 := by rw [jal_28_9]; omega
        have w14 := (wv_wk h3 h2 n (by rw [eSg a (by omega)]; omega)).1
        have fw := wv_fr a (fun i => 0 ≤ A i) (cK T a b A) (fun _ => -1) S n
        rw [hD] at w14 fw
        rw [eN] at ag lb er
        refine fX10_common_211 ⟨by rw [jal_28_9]; omega, fun _ => jcq (m_become (t := c) (u := 14) (by omega) (by omega) (by omega)) (by decide) ?_, fun z => by rw [(hRN.2.1 a ha.1 (by omega)).2.1] at z; exfalso; omega⟩
        rintro r3 M3 ⟨b6, b9, b8, b7, b10, o3⟩
        refine ⟨c9, ?_⟩
        rw [← hQ]
        refine ⟨by rw [b9, hw.2.2.1, er], o3.re hc hI hRN fr (rT_agr w14.1.1.2.1 ag hw.2 b6 b9 b7 b10) ?_, (f1.1.tr hf.1).tr o3.2.1⟩
        rw [b8, h8, lb, fw.2.2, t2]
      | succ j ih =>
        intro n N hn hf ho hw h8 hx ht
        have en : (n : Int) + 1 = ((n + 1 : Nat) : Int) := by omega
        have hRN := hR1.made hI hf ho
        have Ta := hRN.2.1 a ha.1 (by omega)
        have Tb := hRN.2.1 b hb.1 (by omega)
        have b12 : 0 ≤ (n : Int) ∧ (n : Int) < jal 28 12 := by rw [jal_28_12]; omega
        obtain ⟨w1, -⟩ := wv_wk h3 h2 n (by rw [eSg a (by omega)]; omega)
        have fw := wv_fr a (fun i => 0 ≤ A i) (cK T a b A) (fun _ => -1) S n
        have wl := wv_len a (fun i => 0 ≤ A i) (cK T a b A) (fun _ => -1) S n
        have st1 := wv_yes (g := a) (P := fun i => 0 ≤ A i) (K := cK T a b A) (Mo := fun _ => -1) (D := S) (n := n)
        have st2 := wv_no (g := a) (P := fun i => 0 ≤ A i) (K := cK T a b A) (Mo := fun _ => -1) (D := S) (n := n)
        rw [hD] at w1 fw wl st1 st2
        have eDa : D n a = C a := by rw [← eSg a (by omega)]; funext y; exact fw.1 a y (by omega) (by omega)
        have eD19 : D n 19 = C 19 := by rw [← eS19]; funext y; exact fw.1 19 y (by simp) (by simp)
        have eD26 : D n 26 6 = S 26 6 := fw.1 26 6 (by simp) (by simp)
        obtain ⟨a1, a2, a3⟩ := hans n (by omega) (by omega)
        refine fX10_common_211 ⟨by rw [jal_28_9]; omega, fun z => by rw [Ta.2.1] at z; exfalso; omega, fun _ => ⟨b12, ?_⟩⟩
        rw [hf.2 12 (by omega) (by omega), a1, jwr_id (z := (n : Int) + 1) (by omega) (by omega), en]
        refine ⟨fun z => ?_, fun z => ?_⟩
        · have no : ¬ (0 ≤ A n ∧ aE (D n) a n) := fun h => by have := (jno_lt a2).mp z; omega
          refine ih (n + 1) N (by omega) hf ho (by rw [st2 no]; exact hw) h8 hx (fun i i0 i1 hi => ?_)
          rw [st2 no]
          refine ht i i0 ?_ hi
          have : ¬ i = n := fun e => by rw [e] at hi; have := (jno_lt a2).mp z; omega
          omega
        · have A0 : 0 ≤ A n := by
            apply Classical.byContradiction
            intro q
            rw [jno_neg (by omega)] at z
            exact absurd z (by decide)
          obtain ⟨he, m1, m2⟩ := hends n (by omega) A0
          have hEs := fun q q0 q1 => hG.2.1.2.1 n q (by omega) (by omega) q0 q1
          have k3 := h3.2.2 n (by omega) (by rw [eSg a (by omega)]; omega) A0
          -- the ends are there
          have nEe : ∀ q, 0 ≤ q → q < 3 → C a 6 (3 * n + q) = -1 ∨ 0 ≤ nE (D n) (C a 6 (3 * n + q)) := fun q q0 q1 => by
            have es := hEs q q0 q1
            rcases he q q0 q1 with e | ⟨e1, e2, e3⟩ | ⟨e1, e2⟩
            · exact Or.inl e
            · right
              have := (hx _ e1 (es.2.1 e2) e3).2
              have := es.2.1 e2
              unfold nE
              rw [if_neg (by omega), if_pos (by omega), eD26]
              omega
            · right
              have := (ht (C a 6 (3 * n + q) - 10) (by omega) (by omega) e2).2
              unfold nE
              rw [if_neg (by omega), if_neg (by omega), if_pos ⟨by omega, by omega⟩]
              omega
          have hae : aE (D n) a n := fun q q0 q1 => by
            rw [eDa]
            rcases nEe q q0 q1 with e | e
            · exact Or.inl e
            · exact Or.inr (by omega)
          have mv : ∀ q, 0 ≤ q → q < 3 → jCallP 0 104 [.inr (28, 0), .inl (jno (C a 6 (3 * n + q)))] N (fun r M' => r = jno (nE (D n) (C a 6 (3 * n + q))) ∧ M' = N) := fun q q0 q1 => by
            have es := hEs q q0 q1
            have w7 := w1.2.2.2.2
            have n14 := w1.1.1.2.1.2
            refine m_moved ⟨es.1, by omega, fun h => by have := es.2.1 h; omega⟩ (fun h h' => ?_) (fun h => ?_)
            · rcases he q q0 q1 with e | ⟨e1, e2, e3⟩ | ⟨e1, e2⟩
              · omega
              · rw [eD26]; exact hx _ h (es.2.1 h') e3
              · omega
            · rcases he q q0 q1 with e | ⟨e1, e2, e3⟩ | ⟨e1, e2⟩
              · omega
              · omega
              · have := ht (C a 6 (3 * n + q) - 10) (by omega) (by omega) e2
                have := w7 (C a 6 (3 * n + q) - 10) (by omega) (by omega)
                omega
          have mv0 := mv 0 (by omega) (by omega)
          rw [Int.add_zero] at mv0
          obtain ⟨q0, q1, q2, q3, -⟩ := Ta.2.2.2 n (by omega) (by omega)
          have qb := (Tb.2.2.2 (A n) A0 a3).1
          have KA := hG.2.1.1.2.2.1 n (by omega) (by omega)
          have KB := hG.2.2.1.1.2.2.1 (A n) A0 a3
          have wI : ∀ c, 0 ≤ c → c ≤ 3 → jwr (84 * a + 6 * (n : Int) + c) = 84 * a + 6 * n + c := fun c _ _ => jwr_id (by omega) (by omega)
          have bI : ∀ c, 0 ≤ c → c ≤ 3 → 0 ≤ 84 * a + 6 * (n : Int) + c ∧ 84 * a + 6 * (n : Int) + c < jal 28 10 := fun c _ _ => by rw [jal_28_10]; omega
          have bI0 : 0 ≤ 84 * a + 6 * (n : Int) ∧ 84 * a + 6 * (n : Int) < jal 28 10 := by rw [jal_28_10]; omega
          refine jc (m_at N (t := a) (e := n) (by omega) (by omega)) (by decide) ⟨b12, ?_⟩
          rw [hf.2 12 (by omega) (by omega), a1, jno_ge A0]
          refine jc (m_at N (t := b) (e := A n) (by omega) (by omega)) (by decide) ⟨by rw [jal_28_10]; omega, bI0, bI0, ?_⟩
          rw [q0, qb]
          refine jc (m_alikeAt hG.1 hRN.1 KA KB (by omega)) (by decide) ?_
          have em : meetM C (C a 5 n) (C b 5 (A n)) l = (((meet C (C a 5 n) (C b 5 (A n))).toNat : Nat) : Int) := by
            unfold meetM
            rw [if_pos ⟨m1, m2⟩]
            omega
          rw [em]
          have mr := meet_rng C (C a 5 n) (C b 5 (A n))
          refine jc (m_above hG.1 hRN.1 KA _ (by omega)) (by decide) ?_
          have ck : lab C (meet C (C a 5 n) (C b 5 (A n))).toNat (C a 5 n) = cK T a b A n := by
            unfold cK
            rw [eTa, eTb, meet_agr eT19, lab_agr eT19]
          rw [ck, wI 1 (by omega) (by omega), wI 2 (by omega) (by omega), wI 3 (by omega) (by omega), q1]
          refine ⟨bI 1 (by omega) (by omega), jc mv0 (by decide) ⟨bI 2 (by omega) (by omega), ?_⟩⟩
          rw [q2]
          refine jc (mv 1 (by omega) (by omega)) (by decide) ⟨bI 3 (by omega) (by omega), ?_⟩
          rw [q3]
          refine jc (mv 2 (by omega) (by omega)) (by decide) ?_
          have hLD : jLV (D n) := by have := hG.1; unfold jLV at this ⊢; rw [eD19]; exact this
          have hGD : jGood (D n) a := good_agr eD19 (agr_fx eDa) (by omega) hG.2.1
          have hTD : rT (D n) N a := by unfold rT; rw [eDa]; exact Ta
          have br := m_bring (D := D n) (M := N) (g := a) (i := n) (k := cK T a b A n) (m := -1) hLD w1 hw (by omega) hGD hTD (by rw [eDa]; omega) (by rw [eD19, eDa]; have := k3.2.1; rw [eS19, eSg a (by omega)] at this; exact this) hae k3.1 (by omega)
          rw [eDa] at br
          refine jcq br (by decide) ?_
          rintro r9 M9 ⟨e9, p9', w9, o9, l9⟩
          have yes := st1 ⟨A0, hae⟩
          obtain ⟨b1, -, -⟩ := brg_26 (D n) a n (cK T a b A n) (-1)
          rw [← yes] at e9 w9 b1
          refine ⟨by rw [jal_28_32]; omega, ih (n + 1) _ (by omega) ((hf.tr o9.c).tr (fC_x (by omega))) ((ho.tr o9.o).tr (o14_x (by omega))) ⟨(fC_x (by omega)).lg w9.1 rfl, w9.2.fx rfl (fun y hy => by rw [jup_set, jset_ne (by omega)])⟩ (by rw [jup_ne (by simp), l9, h8]) (fun x x0 x1 hx2 => by rw [jup_ne (by simp), o9.1 31 (by omega)]; exact hx x x0 x1 hx2) (fun i i0 i1 hi => ?_)⟩
          by_cases u : i = n
          · rw [u, jup_eq, ← e9]; exact ⟨rfl, p9'⟩
          · rw [jup_ne (by omega), o9.1 32 (by omega), b1 i u]
            exact ht i i0 (by omega) hi
    -- the things
    have things : ∀ (j n : Nat) (N : jM), ((n + j : Nat) : Int) = C a 0 0 → fC M1 N → o14 M1 N → N 28 6 14 = cP (fun x => 0 ≤ R' x) n → N 28 9 14 = 0 → N 28 8 14 = 0 → (∀ x : Int, 0 ≤ x → x < n → 0 ≤ R' x → N 28 31 x = cP (fun x => 0 ≤ R' x) x.toNat ∧ N 28 7 (84 + cP (fun x => 0 ≤ R' x) x.toNat) = if C a 4 x = C b 4 (R' x) then C a 4 x else 0) → jWP 5 106 79 [some (.inr (28, 0)), some (.inl a), some (.inl b), some (.inl c), some (.inl l), some (.inl (n : Int)), none, none, none] [] N Q := by
      intro j
      induction j with
      | zero =>
        intro n N hn hf ho h6 h9 h8 hx
        have hRN := hR1.made hI hf ho
        refine fX10_common_79 ⟨by rw [jal_28_6]; omega, fun _ => ?_, fun z => by rw [(hRN.2.1 a ha.1 (by omega)).1] at z; exfalso; omega⟩
        have eN : (C a 0 0).toNat = n := by omega
        rw [eN] at t0 t3
        rw [eTa, eTb] at t3
        have hx6 : ∀ x, 0 ≤ x → x < C a 0 0 → 0 ≤ R' x → N 28 31 x = S 26 6 x ∧ 0 ≤ S 26 6 x := fun x x0 x1 hx2 => by
          have cb := cP_bd (fun x => 0 ≤ R' x) x.toNat
          rw [(hx x x0 (by omega) hx2).1, (t3 x x0 (by omega) hx2).1]
          omega
        refine ties (C a 0 1).toNat 0 N (by omega) hf ho ?_ h8 hx6 (fun i i0 i1 => by omega)
        have e0 : D 0 = S := by rw [← hD]; rfl
        rw [e0]
        refine ⟨hf.lg hR1.1 eS19, by rw [h6, t0], by rw [h9, t1], fun z z0 z1 => ?_, fun i i0 i1 => by rw [t1] at i1; omega⟩
        rw [t0] at z1
        obtain ⟨x, x1, x2, x3⟩ := cP_hit z0 n z1
        have e1 := (hx x (by omega) (by omega) x2).2
        have e2 := (t3 x (by omega) (by omega) x2).2
        rw [Int.toNat_natCast, x3] at e1 e2
        rw [show (6 * 14 + z : Int) = 84 + z by omega, e1, e2]
      | succ j ih =>
        intro n N hn hf ho h6 h9 h8 hx
        have en : (n : Int) + 1 = ((n + 1 : Nat) : Int) := by omega
        have hRN := hR1.made hI hf ho
        have Ta := hRN.2.1 a ha.1 (by omega)
        have Tb := hRN.2.1 b hb.1 (by omega)
        have vn := hv.1 n
        have nl := nd_lt (v := R' n) (by omega)
        have cb := cP_bd (fun x => 0 ≤ R' x) n
        have b6 : (0 : Int) ≤ 14 ∧ (14 : Int) < jal 28 6 := by rw [jal_28_6]; omega
        refine fX10_common_79 ⟨by rw [jal_28_6]; omega, fun z => by rw [Ta.1] at z; exfalso; omega, fun _ => ⟨by rw [jal_28_11]; omega, ?_⟩⟩
        rw [hf.2 11 (by omega) (by omega), hrow n (by omega) (by omega)]
        refine ⟨fun z => ?_, fun z => ?_⟩
        · have no : ¬ 0 ≤ R' n := by have := nl.mp z; omega
          rw [jwr_id (by omega) (by omega), en]
          refine ih (n + 1) N (by omega) hf ho (by rw [h6, cP_no (P := fun x => 0 ≤ R' x) no]) h9 h8 (fun x x0 x1 hx2 => ?_)
          have : ¬ x = n := fun e => by rw [e] at hx2; exact no hx2
          exact hx x x0 (by omega) hx2
        · have y0 : 0 ≤ R' n := by
            apply Classical.byContradiction
            intro q
            have := nl.mpr (by omega)
            omega
          have nde : nd (R' n) = R' n := by unfold nd; rw [if_neg (by omega)]
          have n31 : ∀ (y : Nat) v, ¬ y = 31 → jup N 28 31 n v 28 y = N 28 y := fun y v h => by rw [jup_set, jset_ne (by omega)]
          rw [n31 7 _ (by decide), n31 11 _ (by decide), hf.2 11 (by omega) (by omega), hrow n (by omega) (by omega), nde, h6, jwr_id (z := 6 * a) (by omega) (by omega), jwr_id (z := 6 * b) (by omega) (by omega), jwr_id (z := 6 * a + (n : Int)) (by omega) (by omega), jwr_id (z := 6 * b + R' n) (by omega) (by omega), Ta.2.2.1 n (by omega) (by omega), Tb.2.2.1 (R' n) y0 (by omega)]
          have k190 : ∀ s, s = (if C a 4 n = C b 4 (R' n) then C a 4 n else 0) → jWP 5 106 190 [some (.inr (28, 0)), some (.inl a), some (.inl b), some (.inl c), some (.inl l), some (.inl (n : Int)), none, none, none] [.inl s, .inl (84 + cP (fun x => 0 ≤ R' x) n), .inr (28, 7)] (jup N 28 31 n (cP (fun x => 0 ≤ R' x) n)) Q := fun s hs' => by
            have v6 : jup (jup N 28 31 n (cP (fun x => 0 ≤ R' x) n)) 28 7 (84 + cP (fun x => 0 ≤ R' x) n) s 28 6 14 = cP (fun x => 0 ≤ R' x) n := by rw [jup_ne (by simp), jup_ne (by simp), h6]
            refine fX10_common_190 ⟨by rw [jal_28_7]; omega, b6, b6, ?_⟩
            rw [v6, jwr_id (z := (n : Int) + 1) (by omega) (by omega), en, jwr_id (by omega) (by omega)]
            have ow : own 14 (jup N 28 31 n (cP (fun x => 0 ≤ R' x) n)) (jup (jup (jup N 28 31 n (cP (fun x => 0 ≤ R' x) n)) 28 7 (84 + cP (fun x => 0 ≤ R' x) n) s) 28 6 14 (cP (fun x => 0 ≤ R' x) n + 1)) := (own_7 (by omega)).tr own_6
            refine ih (n + 1) _ (by omega) ((hf.tr (fC_x (by omega))).tr ow.c) ((ho.tr (o14_x (by omega))).tr ow.o) (by rw [jup_eq, cP_yes (P := fun x => 0 ≤ R' x) y0]) (by rw [jup_ne (by simp), jup_ne (by simp), jup_ne (by simp)]; exact h9) (by rw [jup_ne (by simp), jup_ne (by simp), jup_ne (by simp)]; exact h8) (fun x x0 x1 hx2 => ?_)
            rw [jup_ne (by simp), jup_ne (by simp), jup_ne (M := jup (jup N 28 31 n (cP (fun x => 0 ≤ R' x) n)) 28 7 (84 + cP (fun x => 0 ≤ R' x) n) s) (by simp)]
            by_cases u : x = n
            · rw [u, jup_eq, Int.toNat_natCast, jup_eq]
              exact ⟨rfl, hs'⟩
            · have := cP_lt (P := fun x => 0 ≤ R' x) (n := x.toNat) (m := n) (by omega) (by rw [Int.toNat_of_nonneg x0]; exact hx2)
              rw [jup_ne (M := N) (by omega), jup_ne (by omega), jup_ne (by simp)]
              exact hx x x0 (by omega) hx2
          have k153 : ∀ s, (s = 0 → ¬ C a 4 n = C b 4 (R' n)) → (¬ s = 0 → C a 4 n = C b 4 (R' n)) → jWP 5 106 153 [some (.inr (28, 0)), some (.inl a), some (.inl b), some (.inl c), some (.inl l), some (.inl (n : Int)), none, none, none] [.inl s] (jup N 28 31 n (cP (fun x => 0 ≤ R' x) n)) Q := fun s s1 s2 => by
            refine fX10_common_153 ⟨b6, ?_⟩
            rw [n31 6 _ (by decide), n31 7 _ (by decide), h6, jwr_id (z := 84 + cP (fun x => 0 ≤ R' x) n) (by omega) (by omega), jwr_id (z := 6 * a) (by omega) (by omega), jwr_id (z := 6 * a + (n : Int)) (by omega) (by omega), Ta.2.2.1 n (by omega) (by omega)]
            exact ⟨fun w => k190 0 (by rw [if_neg (s1 w)]), fun w => ⟨by rw [jal_28_7]; omega, k190 _ (by rw [if_pos (s2 w)])⟩⟩
          exact ⟨b6, by rw [jal_28_31]; omega, by rw [jal_28_7]; omega, by rw [jal_28_11]; omega, by rw [jal_28_7]; omega, fun w => k153 0 (fun _ => w) (fun q => absurd rfl q), fun w => k153 1 (fun q => absurd q (by decide)) (fun _ => w)⟩
    exact things (C a 0 0).toNat 0 M2 (by omega) o2.c o2.o (by rw [p6]; rfl) p9 p8 (fun x x0 x1 => by omega)
  have hl' := m_likeness (M := M) (lv := l) (tm := tm) hG hMR hl
  rw [hm4]
  refine ⟨fun z3 => ?_, fun z3 => ?_⟩
  · rw [show tm = 0 by omega] at hl' go
    exact jcq hl' (by decide) go
  · rw [z3] at hl' go
    exact jcq hl' (by decide) go
