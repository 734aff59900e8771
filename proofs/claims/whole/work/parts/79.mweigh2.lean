/-! the reference: weigh -/
theorem nd_lt {v : Int} (h : v < 6) : (9 ≤ nd v ↔ v < 0) := by unfold nd; split <;> omega
theorem meetM2 (C : jM) (k l : Int) : meetM C k l 2 = if meet C k l = -1 then -6 else meet C k l := by
  have := meet_rng C k l
  unfold meetM
  split <;> split <;> omega
theorem mws_bd {C : jM} {a b : Int} (hGa : jGood C a) (A : Int → Int) : ∀ n : Nat, (n : Int) ≤ C a 0 1 → (0 ≤ wsum C a b 0 A n ∧ wsum C a b 0 A n ≤ 84 * n) ∧ (0 ≤ wsum C a b 1 A n ∧ wsum C a b 1 A n ≤ n)
  | 0, _ => ⟨⟨Int.le_refl _, Int.le_refl _⟩, ⟨Int.le_refl _, Int.le_refl _⟩⟩
  | n + 1, h => by
    have ih := mws_bd (b := b) hGa A n (by omega)
    have e : ∀ wg, wsum C a b wg A (n + 1) = wsum C a b wg A n + gI C a b wg n (A n) := fun _ => rfl
    have hh := hGa.2.2.1 n (by omega) (by omega)
    have g0 : 0 ≤ gI C a b 0 n (A n) ∧ gI C a b 0 n (A n) ≤ 84 := by
      unfold gI
      repeat' split
      all_goals omega
    have g1 : 0 ≤ gI C a b 1 n (A n) ∧ gI C a b 1 n (A n) ≤ 1 := by
      unfold gI
      repeat' split
      all_goals omega
    rw [e, e]
    omega
/-- what weigh and all that only weighs may change: the row, the answers, how many -/
def fW (M M' : jM) : Prop := f28 M M' ∧ (∀ y, ¬ (y = 0 ∨ y = 12) → M' 28 y = M 28 y) ∧ ∀ z, ¬ z = 12 → M' 28 0 z = M 28 0 z
theorem fW_r (M : jM) : fW M M := ⟨f28_r M, fun _ _ => rfl, fun _ _ => rfl⟩
theorem fW.tr {M M' M'' : jM} (h : fW M M') (h' : fW M' M'') : fW M M'' := ⟨h.1.tr h'.1, fun y q => by rw [h'.2.1 y q, h.2.1 y q], fun z q => by rw [h'.2.2 z q, h.2.2 z q]⟩
theorem fW_12 {M : jM} {j v : Int} : fW M (jup M 28 12 j v) := ⟨f28_up, fun y q => by rw [jup_set, jset_ne (by omega)], fun z q => by rw [jup_ne (by simp)]⟩
theorem fW_0 {M : jM} {v : Int} : fW M (jup M 28 0 12 v) := ⟨f28_up, fun y q => by rw [jup_set, jset_ne (by omega)], fun z q => by rw [jup_ne (by omega)]⟩
theorem fW.mR {C M M' : jM} {a b : Int} (h : fW M M') (hM : mR C M a b) : mR C M' a b := by
  obtain ⟨h1, h2, h3⟩ := hM
  refine ⟨fun k k0 k1 => ?_, h2.fx rfl (fun y hy => h.2.1 y (by omega)), h3.fx rfl (fun y hy => h.2.1 y (by omega))⟩
  rw [h.2.1 1 (by omega), h.2.1 2 (by omega), h.2.1 3 (by omega), h.2.1 4 (by omega)]
  exact h1 k k0 k1
theorem m_weigh {C M : jM} {a b lv tm : Int} {R : Int → Int} (hG : gd C a b) (hM : mR C M a b) (hw : rw1 C a b R) (hR : mRow C M a R) (hlv : 0 ≤ lv ∧ lv < 3) :
    jCallP 3 74 [.inr (28, 0), .inl a, .inl b, .inl lv, .inl tm] M (fun r M' => r = wth C a b lv 0 tm R ∧ mAns C M' b (ans C a b lv 0 tm R) (C a 0 1) ∧ M' 28 0 12 = wth C a b lv 1 tm R ∧ fW M M') := by
  have hG' := hG
  obtain ⟨hL, hGa, hGb, ha, hb⟩ := hG
  have na1 := hGa.1.2.1.1
  have na2 := hGa.1.2.1.2
  have nb1 := hGb.1.2.1.1
  have nb2 := hGb.1.2.1.2
  generalize hAA : ans C a b lv 0 tm R = A
  have sb := cP_bd (mts C a b R)
  have wb := mws_bd (b := b) hGa A
  have Abd : ∀ i, -1 ≤ A i ∧ A i < C b 0 1 := fun i => by rw [← hAA]; exact ansF_bd C a b lv 0 tm R nb2.1 (C a 0 1).toNat i
  -- the candidates of tie n
  have Acand : ∀ n : Nat, (n : Int) < C a 0 1 → A n = jfst (cand C a b lv 0 tm R A n) (C b 0 1).toNat := fun n hn => by
    have e1 : A n = ansF C a b lv 0 tm R (n + 1) n := by rw [← hAA]; exact ansF_st C a b lv 0 tm R (n + 1) _ n (by omega) (by omega)
    rw [e1, ansF_at]
    refine jfst_congr (fun j j0 j1 => ?_)
    have es : ∀ k : Int, k < n → ansF C a b lv 0 tm R n k = A k := fun k hk => by rw [← hAA]; exact (ansF_st C a b lv 0 tm R n _ k hk (by omega)).symm
    have hes := fun q q0 q1 => hGa.2.1 n q (by omega) hn q0 q1
    have s : ∀ q, 0 ≤ q → q < 3 → ∀ f, EA C b R (sLS (ansF C a b lv 0 tm R n)) (fun _ => False) (C a 6 (3 * n + q)) f ↔ EA C b R (sLS A) (fun _ => False) (C a 6 (3 * n + q)) f := fun q q0 q1 f => by
      have := hes q q0 q1
      unfold EA sLS
      by_cases u : 10 ≤ C a 6 (3 * n + q)
      · rw [es _ (by omega)]
      · constructor
        · rintro (h | h)
          · exact Or.inl h
          · omega
        · rintro (h | h)
          · exact Or.inl h
          · omega
    have s0 := s 0 (by omega) (by omega)
    rw [Int.add_zero] at s0
    unfold cand RA goes
    rw [s0, s0, s 1 (by omega) (by omega), s 1 (by omega) (by omega), s 2 (by omega) (by omega)]
    refine and_congr_right (fun _ => and_congr ?_ ?_)
    · exact forall_congr' (fun k => forall_congr' (fun k0 => forall_congr' (fun k1 => by rw [es k k1])))
    · exact forall_congr' (fun _ => forall_congr' (fun k => forall_congr' (fun k0 => forall_congr' (fun k1 => by rw [es k k1]))))
  have hw0 : wth C a b lv 0 tm R = wsum C a b 0 A (C a 0 1).toNat + cP (mts C a b R) (C a 0 0).toNat := by
    unfold wth srt
    rw [hAA, if_neg (by decide)]
  have hw1 : wth C a b lv 1 tm R = wsum C a b 1 A (C a 0 1).toNat := by
    unfold wth srt
    rw [ans_wg1, hAA, if_pos rfl, Int.add_zero]
  rw [hw0, hw1]
  generalize hS : cP (mts C a b R) (C a 0 0).toNat = S
  have Sbd : 0 ≤ S ∧ S ≤ 6 := by have := sb (C a 0 0).toNat; omega
  generalize hQ : (fun (r : Int) (M' : jM) => r = wsum C a b 0 A (C a 0 1).toNat + S ∧ mAns C M' b A (C a 0 1) ∧ M' 28 0 12 = wsum C a b 1 A (C a 0 1).toNat ∧ fW M M') = Q
  refine jstart (by decide) rfl (fX10_weigh_0 ?_)
  -- the ties
  have ties : ∀ (j n : Nat) (N : jM) (L : Int), ((n + j : Nat) : Int) = C a 0 1 → isM L (fun f => ∃ k : Int, (0 ≤ k ∧ k < n) ∧ A k = f ∧ 0 ≤ f) → mAns C N b A n → N 28 0 12 = wsum C a b 1 A n → fW M N → jWP 3 74 88 [some (.inr (28, 0)), some (.inl a), some (.inl b), some (.inl lv), some (.inl tm), some (.inl (wsum C a b 0 A n + S)), some (.inl L), some (.inl (n : Int)), none, none] [] N Q := by
    intro j
    induction j with
    | zero =>
      intro n N L hn hL2 hA hc hf
      have hM' := hf.mR hM
      refine fX10_weigh_88 ⟨by rw [jal_28_9]; omega, fun _ => ?_, fun z => by rw [hM'.2.1.2.1] at z; exfalso; omega⟩
      rw [← hQ, show (C a 0 1).toNat = n by omega]
      exact ⟨rfl, by rw [show C a 0 1 = n by omega]; exact hA, hc, hf⟩
    | succ j ih =>
      intro n N L hn hL2 hA hc hf
      have en : (n : Int) + 1 = ((n + 1 : Nat) : Int) := by omega
      have hM' := hf.mR hM
      have b12 : 0 ≤ (n : Int) ∧ (n : Int) < jal 28 12 := by rw [jal_28_12]; omega
      have wbn := wb n (by omega)
      have wbn1 := wb (n + 1) (by omega)
      have e0 : wsum C a b 0 A (n + 1) = wsum C a b 0 A n + gI C a b 0 n (A n) := rfl
      have e1 : wsum C a b 1 A (n + 1) = wsum C a b 1 A n + gI C a b 1 n (A n) := rfl
      refine fX10_weigh_88 ⟨by rw [jal_28_9]; omega, fun z => by rw [hM'.2.1.2.1] at z; exfalso; omega, fun _ => ⟨b12, ?_⟩⟩
      -- after the search for an answer
      have k211 : ∀ N', N' 28 12 n = jno (A n) → (∀ c : Int, ¬ c = n → N' 28 12 c = N 28 12 c) → N' 28 0 12 = N 28 0 12 → fW M N' → jWP 3 74 211 [some (.inr (28, 0)), some (.inl a), some (.inl b), some (.inl lv), some (.inl tm), some (.inl (wsum C a b 0 A n + S)), some (.inl L), some (.inl (n : Int)), none, none] [] N' Q := by
        intro N' h1 h2 h3 h4
        have hM2 := h4.mR hM
        have an := Abd n
        have mA' : ∀ N2 : jM, N2 28 12 = N' 28 12 → mAns C N2 b A ((n + 1 : Nat) : Int) := fun N2 e k k0 k1 => by
          refine ⟨?_, Abd k⟩
          rw [e]
          by_cases u : k = n
          · rw [u]; exact h1
          · rw [h2 k u]; exact (hA k k0 (by omega)).1
        refine fX10_weigh_211 ⟨b12, fun z => ?_, fun z => ?_⟩
        · rw [h1] at z
          have z' := (jno_lt an.1).mp z
          have g : ∀ wg, gI C a b wg n (A n) = 0 := fun wg => by unfold gI; rw [if_pos z']
          rw [jwr_id (by omega) (by omega), en]
          have := ih (n + 1) N' L (by omega) (hL2.congr (fun f f0 f1 => ⟨fun ⟨k, kk, k1, k2⟩ => ⟨k, by omega, k1, k2⟩, fun ⟨k, kk, k1, k2⟩ => ⟨k, ⟨kk.1, by
            have : ¬ k = n := fun u => by rw [u] at k1; omega
            omega⟩, k1, k2⟩⟩)) (mA' N' rfl) (by rw [h3, hc, e1, g, Int.add_zero]) h4
          rw [e0, g, Int.add_zero] at this
          exact this
        · rw [h1] at z
          have z' : 0 ≤ A n := by
            apply Classical.byContradiction
            intro q
            rw [jno_neg (by omega)] at z
            exact absurd z (by decide)
          have cd := jfst_sp (cand C a b lv 0 tm R A n) (C b 0 1).toNat
          rw [← Acand n (by omega)] at cd
          have hcd : cand C a b lv 0 tm R A n (A n) := by
            rcases cd with cd | cd
            · omega
            · exact cd.2.2.1
          have hme := hcd.1.1.2.2.1
          have kA := hGa.1.2.2.1 n (by omega) (by omega)
          have kB := hGb.1.2.2.1 (A n) z' an.2
          have hh := hGa.2.2.1 n (by omega) (by omega)
          have TA := hM2.2.1.2.2.2 n (by omega) (by omega)
          have TB := hM2.2.2.2.2.2 (A n) z' an.2
          have n28 : ∀ y (N2 : jM) v, ¬ y = 0 → jup N2 28 0 12 v 28 y = N2 28 y := fun y N2 v h => by rw [jup_set, jset_ne (by omega)]
          have bA : 0 ≤ 84 * a + 6 * (n : Int) ∧ 84 * a + 6 * (n : Int) < jal 28 10 := by rw [jal_28_10]; omega
          have bA5 : 0 ≤ 84 * a + 6 * (n : Int) + 5 ∧ 84 * a + 6 * (n : Int) + 5 < jal 28 10 := by rw [jal_28_10]; omega
          have bB : 0 ≤ 84 * b + 6 * A n ∧ 84 * b + 6 * A n < jal 28 10 := by rw [jal_28_10]; omega
          refine ⟨b12, jc (m_at _ (t := a) (e := n) (by omega) (by omega)) (by decide) ⟨bA, b12, ?_⟩⟩
          rw [n28 12 _ _ (by decide), h1, jno_ge z']
          refine jc (m_at _ (t := b) (e := A n) (by omega) (by omega)) (by decide) ⟨bB, ?_⟩
          rw [n28 10 _ _ (by decide), TA.1, TB.1]
          have rl' : rL C (jup N' 28 0 12 (jwr (N' 28 0 12 + 1))) := (fW_0.mR hM2).1
          refine jc (m_alikeAt hL rl' kA kB (by omega)) (by decide) ?_
          refine jc (m_at _ (t := a) (e := n) (by omega) (by omega)) (by decide) ?_
          rw [jwr_id (z := 84 * a + 6 * (n : Int) + 5) (by omega) (by omega), n28 10 _ _ (by decide), TA.2.2.2.2.2, h3, hc, jwr_id (z := wsum C a b 1 A n + 1) (by omega) (by omega), meetM2, if_neg (by omega)]
          have g1 : gI C a b 1 n (A n) = 1 := by unfold gI; rw [if_neg (by omega), if_neg (by decide)]
          have g0 : ∀ c, c = (if meet C (C a 5 n) (C b 5 (A n)) = 0 then 6 else if meet C (C a 5 n) (C b 5 (A n)) ≤ 1 then 4 else 3) → gI C a b 0 n (A n) = C a 8 n * c := fun c hc => by unfold gI; rw [if_neg (by omega), if_pos rfl, hc]
          have go : ∀ c, (c = 6 ∨ c = 4 ∨ c = 3) → c = (if meet C (C a 5 n) (C b 5 (A n)) = 0 then 6 else if meet C (C a 5 n) (C b 5 (A n)) ≤ 1 then 4 else 3) → jWP 3 74 88 [some (.inr (28, 0)), some (.inl a), some (.inl b), some (.inl lv), some (.inl tm), some (.inl (jwr (wsum C a b 0 A n + S + jwr (C a 8 n * c)))), some (.inl (jior L (jishl 1 (A n)))), some (.inl (jwr ((n : Int) + 1))), none, none] [] (jup N' 28 0 12 (wsum C a b 1 A n + 1)) Q := fun c hc6 hc => by
            have hb : 0 ≤ C a 8 n * c ∧ C a 8 n * c ≤ 84 := by rcases hc6 with e | e | e <;> rw [e] <;> omega
            rw [jwr_id (z := C a 8 n * c) (by omega) (by omega), jwr_id (z := wsum C a b 0 A n + S + C a 8 n * c) (by omega) (by omega), jwr_id (z := (n : Int) + 1) (by omega) (by omega), en]
            have := ih (n + 1) (jup N' 28 0 12 (wsum C a b 1 A n + 1)) (jior L (jishl 1 (A n))) (by omega) ((hL2.or (isM_bit (k := A n) (by omega) (by omega))).congr (fun f f0 f1 => ⟨fun q => ?_, fun ⟨k, kk, k1, k2⟩ => ?_⟩)) (mA' _ (n28 12 _ _ (by decide))) (by rw [jup_eq, e1, g1]) (h4.tr fW_0)
            · rw [e0, g0 c hc] at this
              rw [show wsum C a b 0 A n + S + C a 8 n * c = wsum C a b 0 A n + C a 8 n * c + S by omega]
              exact this
            · rcases q with ⟨k, kk, k1, k2⟩ | q
              · exact ⟨k, by omega, k1, k2⟩
              · exact ⟨n, by omega, q.symm, f0⟩
            · by_cases u : k = n
              · exact Or.inr (by rw [← k1, u])
              · exact Or.inl ⟨k, by omega, k1, k2⟩
          exact ⟨bA5, fun z2 => ⟨fun z3 => go 3 (by omega) (by rw [if_neg z2, if_neg (by omega)]), fun z3 => go 4 (by omega) (by rw [if_neg z2, if_pos (by omega)])⟩, fun z2 => go 6 (by omega) (by rw [if_pos z2])⟩
      -- the search
      have k111 : ∀ (i m : Nat) (N' : jM), ((m + i : Nat) : Int) = C b 0 1 → ((N' 28 12 n = -6 ∧ ∀ f : Int, 0 ≤ f → f < m → ¬ cand C a b lv 0 tm R A n f) ∨ (N' 28 12 n = A n ∧ 0 ≤ A n)) → (∀ c : Int, ¬ c = n → N' 28 12 c = N 28 12 c) → N' 28 0 12 = N 28 0 12 → fW M N' → jWP 3 74 111 [some (.inr (28, 0)), some (.inl a), some (.inl b), some (.inl lv), some (.inl tm), some (.inl (wsum C a b 0 A n + S)), some (.inl L), some (.inl (n : Int)), some (.inl (m : Int)), none] [] N' Q := by
        intro i
        have found : ∀ N' : jM, (N' 28 12 n = A n ∧ 0 ≤ A n) → N' 28 12 n = jno (A n) := fun N' h => by rw [h.1, jno_ge h.2]
        induction i with
        | zero =>
          intro m N' hm h1 h2 h3 h4
          have hM2 := h4.mR hM
          refine fX10_weigh_111 ⟨by rw [jal_28_9]; omega, fun _ => k211 N' ?_ h2 h3 h4, fun z => by rw [hM2.2.2.2.1] at z; exfalso; omega⟩
          rcases h1 with h1 | h1
          · have : A n = -1 := by rw [Acand n (by omega)]; exact jfst_none (fun f f0 f1 => h1.2 f f0 (by omega))
            rw [h1.1, this]
            rfl
          · exact found N' h1
        | succ i ih2 =>
          intro m N' hm h1 h2 h3 h4
          have em : (m : Int) + 1 = ((m + 1 : Nat) : Int) := by omega
          have hM2 := h4.mR hM
          have mA2 : mAns C N' b A n := fun k k0 k1 => by rw [h2 k (by omega)]; exact hA k k0 k1
          have hR2 : mRow C N' a R := fun x x0 x1 => by rw [h4.2.1 11 (by decide)]; exact hR x x0 x1
          refine fX10_weigh_111 ⟨by rw [jal_28_9]; omega, fun z => by rw [hM2.2.2.2.1] at z; exfalso; omega, fun _ => ⟨b12, fun z => ?_, fun z => ?_⟩⟩
          · rcases h1 with h1 | h1
            · rw [h1.1] at z; exact absurd z (by decide)
            · exact k211 N' (found N' h1) h2 h3 h4
          · have h1 : N' 28 12 n = -6 ∧ ∀ f : Int, 0 ≤ f → f < m → ¬ cand C a b lv 0 tm R A n f := by
              rcases h1 with h1 | h1
              · exact h1
              · rw [h1.1] at z; omega
            have no : ¬ cand C a b lv 0 tm R A n m → jWP 3 74 179 [some (.inr (28, 0)), some (.inl a), some (.inl b), some (.inl lv), some (.inl tm), some (.inl (wsum C a b 0 A n + S)), some (.inl L), some (.inl (n : Int)), some (.inl (m : Int)), none] [.inl 0] N' Q := fun h => fX10_weigh_179 ⟨fun _ => ⟨b12, b12, by
              rw [jwr_id (by omega) (by omega), em]
              refine ih2 (m + 1) _ (by omega) (Or.inl ⟨by rw [jup_eq]; exact h1.1, fun f f0 f1 => ?_⟩) (fun c hc2 => by rw [jup_ne (by omega)]; exact h2 c hc2) (by rw [jup_ne (by simp)]; exact h3) (h4.tr fW_12)
              by_cases u : f = m
              · rw [u]; exact h
              · exact h1.2 f f0 (by omega)⟩, fun q => absurd rfl q⟩
            have yes : cand C a b lv 0 tm R A n m → jWP 3 74 179 [some (.inr (28, 0)), some (.inl a), some (.inl b), some (.inl lv), some (.inl tm), some (.inl (wsum C a b 0 A n + S)), some (.inl L), some (.inl (n : Int)), some (.inl (m : Int)), none] [.inl 1] N' Q := fun h => fX10_weigh_179 ⟨fun q => absurd q (by decide), fun _ => ⟨b12, by
              have e : A n = m := by rw [Acand n (by omega)]; exact jfst_is (by omega) (by omega) h h1.2
              rw [jwr_id (by omega) (by omega), em]
              exact ih2 (m + 1) _ (by omega) (Or.inr ⟨by rw [jup_eq]; exact e.symm, by omega⟩) (fun c hc2 => by rw [jup_ne (by omega)]; exact h2 c hc2) (by rw [jup_ne (by simp)]; exact h3) (h4.tr fW_12)⟩⟩
            refine ⟨fun z2 => no (fun h => ?_), fun z2 => ?_⟩
            · refine z2 ((hL2.test (by omega) (by omega)).mpr ?_)
              rintro ⟨k, kk, k1, -⟩
              exact h.2.1 k kk.1 kk.2 k1
            · have nk := (hL2.test (by omega) (by omega)).mp z2
              have hap : ∀ k, 0 ≤ k → k < (n : Int) → ¬ A k = m := fun k k0 k1 e => nk ⟨k, ⟨k0, k1⟩, e, by omega⟩
              refine jcq (m_tieAnswers (M := N') (e := n) (f := m) hG' hM2 hw hR2 mA2 (by omega) (by omega) hlv) (by decide) ?_
              rintro r1 N1 ⟨b1, rfl⟩
              refine ⟨fun z3 => no (fun h => (jBl_eq b1).mp z3 h.1), fun z3 => ⟨fun z4 => yes ⟨(jBl_ne b1).mp z3, hap, fun q => absurd z4 q⟩, fun z4 => ?_⟩⟩
              refine jcq (m_goes (M := N1) (n := n) (f := m) hG' hM2 mA2 (by omega) (by omega)) (by decide) ?_
              rintro r2 N2 ⟨b2, rfl⟩
              exact ⟨fun z5 => no (fun h => (jBl_eq b2).mp z5 (h.2.2 z4)), fun z5 => yes ⟨(jBl_ne b1).mp z3, hap, fun _ => (jBl_ne b2).mp z5⟩⟩
      exact k111 (C b 0 1).toNat 0 _ (by omega) (Or.inl ⟨by rw [jup_eq], fun f f0 f1 => by omega⟩) (fun c hc2 => by rw [jup_ne (by omega)]) (by rw [jup_ne (by simp)]) (hf.tr fW_12)
  -- the things
  have things : ∀ (j n : Nat), ((n + j : Nat) : Int) = C a 0 0 → jWP 3 74 14 [some (.inr (28, 0)), some (.inl a), some (.inl b), some (.inl lv), some (.inl tm), some (.inl (cP (mts C a b R) n)), some (.inl 0), some (.inl (n : Int)), none, none] [] (jup M 28 0 12 0) Q := by
    have f0 : fW M (jup M 28 0 12 0) := fW_0
    have hM' := f0.mR hM
    intro j
    induction j with
    | zero =>
      intro n hn
      refine fX10_weigh_14 ⟨by rw [jal_28_6]; omega, fun _ => ?_, fun z => by rw [hM'.2.1.1] at z; exfalso; omega⟩
      have := ties (C a 0 1).toNat 0 (jup M 28 0 12 0) 0 (by omega) (isM_0.congr (fun f _ _ => ⟨fun q => q.elim, fun ⟨k, kk, _⟩ => by omega⟩)) (fun k k0 k1 => by omega) (by rw [jup_eq]; rfl) f0
      rw [show wsum C a b 0 A 0 = 0 from rfl, Int.zero_add] at this
      rw [show n = (C a 0 0).toNat by omega, hS]
      exact this
    | succ j ih =>
      intro n hn
      have hi := ih (n + 1) (by omega)
      have en : (n : Int) + 1 = ((n + 1 : Nat) : Int) := by omega
      have b11 : 0 ≤ (n : Int) ∧ (n : Int) < jal 28 11 := by rw [jal_28_11]; omega
      have c := sb n
      have wn := hw n
      refine fX10_weigh_14 ⟨by rw [jal_28_6]; omega, fun z => by rw [hM'.2.1.1] at z; exfalso; omega, fun _ => ⟨b11, ?_⟩⟩
      rw [f0.2.1 11 (by decide), hR n (by omega) (by omega)]
      have sk : ¬ mts C a b R n → jWP 3 74 14 [some (.inr (28, 0)), some (.inl a), some (.inl b), some (.inl lv), some (.inl tm), some (.inl (jwr (cP (mts C a b R) n + 0))), some (.inl 0), some (.inl (jwr ((n : Int) + 1))), none, none] [] (jup M 28 0 12 0) Q := fun h => by
        rw [jwr_id (by omega) (by omega), jwr_id (by omega) (by omega), en, Int.add_zero]
        rwa [cP_no h] at hi
      refine ⟨fun z => sk (fun h => ?_), fun z => ?_⟩
      · have := (nd_lt (v := R n) (by omega)).mp z
        have := h.1
        omega
      · have h0 : 0 ≤ R n := by
          apply Classical.byContradiction
          intro q
          have := (nd_lt (v := R n) (by omega)).mpr (by omega)
          omega
        have nde : nd (R n) = R n := by unfold nd; rw [if_neg (by omega)]
        rw [nde, jwr_id (z := 6 * a) (by omega) (by omega), jwr_id (z := 6 * b) (by omega) (by omega), jwr_id (z := 6 * a + (n : Int)) (by omega) (by omega), jwr_id (z := 6 * b + R n) (by omega) (by omega), f0.2.1 7 (by decide), hM.2.1.2.2.1 n (by omega) (by omega), hM.2.2.2.2.1 (R n) h0 (by omega)]
        refine ⟨by rw [jal_28_7]; omega, b11, by rw [jal_28_7]; omega, fun z2 => sk (fun h => z2 h.2), fun z2 => ?_⟩
        rw [jwr_id (by omega) (by omega), jwr_id (by omega) (by omega), en]
        rwa [cP_yes (P := mts C a b R) ⟨h0, z2⟩] at hi
  exact things (C a 0 0).toNat 0 (by omega)
