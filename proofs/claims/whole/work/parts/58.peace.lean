/-! isPeaceWithout, giveUp, bound -/
theorem jRdy.fx2 {C M M' : jM} {a b lv tm wg : Int} (ha : 0 ≤ a ∧ a < 18) (hb : 0 ≤ b ∧ b < 18) (hR : jRdy C M a b lv tm wg) (h : ∀ x y, ¬ (x = 20 ∧ (y = 6 ∨ y = 7 ∨ y = 8 ∨ y = 14)) → ¬ (22 ≤ x ∧ x < 26) → M' x y = M x y) : jRdy C M' a b lv tm wg := by
  obtain ⟨r1, r2, r3, hT, hC, hH, h19, hMa, hMb⟩ := hR
  refine ⟨by rw [h 20 0 (by simp) (by simp), r1], by rw [h 20 0 (by simp) (by simp), r2], by rw [h 20 0 (by simp) (by simp), r3], ?_, fun i i0 i1 => ?_, fun q e q0 q1 e0 e1 => by rw [h 20 13 (by simp) (by simp)]; exact hH q e q0 q1 e0 e1, by funext y; rw [h _ _ (by simp) (by simp), h19], by funext y; rw [h _ _ (by omega) (by omega), hMa], by funext y; rw [h _ _ (by omega) (by omega), hMb]⟩
  · unfold jTm at hT ⊢
    rw [h 21 0 (by simp) (by simp), h 21 4 (by simp) (by simp), h 21 5 (by simp) (by simp)]
    exact hT
  · have := hC i i0 i1
    unfold jCmp at this ⊢
    rw [h 20 9 (by simp) (by simp), h 20 10 (by simp) (by simp), h 20 11 (by simp) (by simp), h 20 12 (by simp) (by simp)]
    exact this
/-- guess i is against the other tale -/
noncomputable def agn (C : jM) (p A G : Int → Int) (i : Int) : Prop := ¬ C 19 4 (C 12 5 i) = -1 ∧ ¬ fnd C 13 (C 19 4 (C 12 5 i)) (ovr p A G (C 12 6 (3 * i))) (ovr p A G (C 12 6 (3 * i + 1))) (ovr p A G (C 12 6 (3 * i + 2))) = -1
def spk (C : jM) (p A G : Int → Int) : Prop := ∃ i, (0 ≤ i ∧ i < C 12 0 1) ∧ 0 ≤ G i ∧ agn C p A G i
def speaks (C : jM) (lv tm : Int) (p : Int → Int) : Prop := spk C p (ans C 12 13 lv 0 tm p) (gS C p (ans C 12 13 lv 0 tm p) (C 12 0 1).toNat).2
/-- the row without what a set gives up -/
def gvn (v : Int) (p : Int → Int) (x : Int) : Int := if jiand (jishr v x) 1 = 0 then p x else -1
theorem fnd_fx {M M' : jM} {g : Int} (h : M' g = M g) (h19 : M' 19 = M 19) (k x y z : Int) : fnd M' g k x y z = fnd M g k x y z := by
  unfold fnd mtie
  rw [h, h19]
theorem c_isPeace {C M : jM} {lv tm v : Int} {p : Int → Int} (hL : jLV C) (hG12 : jGood C 12) (hG13 : jGood C 13) (hR : jRdy C M 12 13 lv tm 0) (hp : ∀ x, 0 ≤ x → x < C 12 0 0 → M 23 6 x = p x ∧ -1 ≤ p x ∧ p x < 6) :
    jCallP 4 38 [.inr (18, 0), .inl v] M (fun r M' => jBl r (¬ speaks C lv tm (gvn v p)) ∧ ∀ x y, ¬ (x = 20 ∧ (y = 6 ∨ y = 7 ∨ y = 8)) → ¬ (x = 25 ∧ (y = 0 ∨ y = 5 ∨ y = 6)) → M' x y = M x y) := by
  have hN := hG12.1.2.1
  have b1 := hN.1
  have t1 := hN.2
  have n13 := hG13.1.2.1
  have e12 : M 12 = C 12 := hR.2.2.2.2.2.2.2.1
  have hgv : ∀ x, 0 ≤ x → x < C 12 0 0 → -1 ≤ gvn v p x ∧ gvn v p x < 6 := fun x x0 x1 => by
    have := hp x x0 x1
    unfold gvn
    split <;> omega
  refine jstart (by decide) rfl (fX9_isPeaceWithout_0 ?_)
  have key : ∀ (j n : Nat) (f : Int → Int), ((n + j : Nat) : Int) = C 12 0 0 → (∀ x : Int, 0 ≤ x → x < n → f x = gvn v p x) → jWP 4 38 2 [some (.inr (18, 0)), some (.inl v), some (.inl (n : Int))] [] (jset M 20 6 f) (fun r M' => jBl r (¬ speaks C lv tm (gvn v p)) ∧ ∀ x y, ¬ (x = 20 ∧ (y = 6 ∨ y = 7 ∨ y = 8)) → ¬ (x = 25 ∧ (y = 0 ∨ y = 5 ∨ y = 6)) → M' x y = M x y) := by
    intro j
    induction j with
    | zero =>
      intro n f hn hf
      have f0 : ∀ x y, ¬ (x = 20 ∧ y = 6) → jset M 20 6 f x y = M x y := fun x y h => jset_ne h
      have hR0 : jRdy C (jset M 20 6 f) 12 13 lv tm 0 := hR.fx2 (by omega) (by omega) (fun x y h _ => f0 x y (by omega))
      refine fX9_isPeaceWithout_2 ⟨by omega, fun _ => ?_, fun z => by rw [f0 12 0 (by simp), e12] at z; exfalso; omega⟩
      refine jcq (c_settle (C := C) (lv := lv) (wg := 0) (tm := tm) (p := gvn v p) hG12.1 hG13.1 hG12.2.1 hG12.2.2.1 hR0 (fun x x0 x1 => ⟨by rw [jset_eq]; exact hf x x0 (by omega), hgv x x0 x1⟩)) (by decide) ?_
      rintro r1 M1 ⟨-, hA, f1⟩
      have g12 : M1 12 = C 12 := by funext y; rw [f1 12 y (by simp), f0 12 y (by simp), e12]
      have abd := fun i => ansF_bd C 12 13 lv 0 tm (gvn v p) n13.2.1 (C 12 0 1).toNat i
      refine jcq (c_gather_25 (C := C) (p := gvn v p) (A := ans C 12 13 lv 0 tm (gvn v p)) hN hG12.2.1 ⟨g12, fun x x0 x1 => ⟨by rw [f1 20 6 (by simp), jset_eq]; exact hf x x0 (by omega), hgv x x0 x1⟩, fun i i0 i1 => ⟨(hA i i0 i1).1, (abd i).1, by have := (abd i).2; have := n13.2; unfold ans; omega⟩, fun i i0 i1 => by omega⟩) (by decide) ?_
      rintro r2 M2 ⟨gl, f2⟩
      have fr : ∀ x y, ¬ (x = 20 ∧ (y = 6 ∨ y = 7 ∨ y = 8)) → ¬ (x = 25 ∧ (y = 0 ∨ y = 5 ∨ y = 6)) → M2 x y = M x y := fun x y h h' => by rw [f2 x y h', f1 x y (by omega), f0 x y (by omega)]
      have w19 : M2 19 = C 19 := by funext y; rw [fr 19 y (by simp) (by simp), hR.2.2.2.2.2.2.1]
      have w13 : M2 13 = C 13 := by funext y; rw [fr 13 y (by simp) (by simp), hR.2.2.2.2.2.2.2.2]
      obtain ⟨g1, g2, g3⟩ := gl
      have hS : speaks C lv tm (gvn v p) = spk C (gvn v p) (ans C 12 13 lv 0 tm (gvn v p)) (gS C (gvn v p) (ans C 12 13 lv 0 tm (gvn v p)) (C 12 0 1).toNat).2 := rfl
      generalize hAA : ans C 12 13 lv 0 tm (gvn v p) = A at g1 g2 g3 hS
      obtain ⟨q1, q2, q3, q4, q5⟩ := gS_bd C (gvn v p) A (C 12 0 1).toNat
      generalize hGG : (gS C (gvn v p) A (C 12 0 1).toNat).2 = G at g1 g3 hS q2 q3 q4 q5
      generalize hcc : (gS C (gvn v p) A (C 12 0 1).toNat).1 = c at g2 q1 q2 q4
      have key2 : ∀ j n : Nat, ((n + j : Nat) : Int) = c → (∀ i, 0 ≤ i → i < C 12 0 1 → 0 ≤ G i → G i < n → ¬ agn C (gvn v p) A G i) → jWP 4 38 69 [some (.inr (18, 0)), none, some (.inl (n : Int))] [] M2 (fun r M' => jBl r (¬ speaks C lv tm (gvn v p)) ∧ ∀ x y, ¬ (x = 20 ∧ (y = 6 ∨ y = 7 ∨ y = 8)) → ¬ (x = 25 ∧ (y = 0 ∨ y = 5 ∨ y = 6)) → M' x y = M x y) := by
        intro j
        induction j with
        | zero =>
          intro n hn hno
          refine fX9_isPeaceWithout_69 ⟨fun _ => ⟨Or.inr rfl, ⟨Or.inl ⟨rfl, ?_⟩, fr⟩⟩, fun z => by rw [g2] at z; exfalso; omega⟩
          rw [hS]
          rintro ⟨i, ⟨i0, i1⟩, h2, h3⟩
          exact hno i i0 i1 h2 (by have := (q2 i).2; omega) h3
        | succ j ih =>
          intro n hn hno
          obtain ⟨T, T0, T1, eT⟩ := q4 n (by omega) (by omega)
          have hT : M2 25 5 n = T := by
            have := g3 T T0 (by omega) (by omega)
            rwa [eT] at this
          refine fX9_isPeaceWithout_69 ⟨fun z => by rw [g2] at z; exfalso; omega, fun _ => ?_⟩
          refine jcq (c_isAgainst_25 (C := C) (g := 13) hN hG12.2.1 hG12.1.2.2.1 hL w19 g1 hT T0 (by omega) (by omega) (by omega) (by unfold jNB; rw [w13]; exact n13)) (by decide) ?_
          rintro r M' ⟨bl, rfl⟩
          rw [fnd_fx (M := C) w13 w19] at bl
          refine ⟨fun w => ?_, fun w => ⟨Or.inl rfl, ⟨Or.inr ⟨rfl, fun h => h ?_⟩, fr⟩⟩⟩
          · have := ih (n + 1) (by omega) (fun i i0 i1 h2 h3 => ?_)
            · rw [jwr_id (by omega) (by omega)]
              exact this
            · by_cases u : G i = n
              · have : i = T := q5 i T h2 (by omega)
                rw [this]
                exact (jBl_eq bl).mp w
              · exact hno i i0 i1 h2 (by omega)
          · rw [hS]
            exact ⟨T, ⟨T0, by omega⟩, by omega, (jBl_ne bl).mp w⟩
      exact key2 c.toNat 0 (by omega) (fun i _ _ h h' => by omega)
    | succ j ih =>
      intro n f hn hf
      have f0 : ∀ x y, ¬ (x = 20 ∧ y = 6) → jset M 20 6 f x y = M x y := fun x y h => jset_ne h
      have en : (n : Int) + 1 = ((n + 1 : Nat) : Int) := by omega
      have hi := ih (n + 1) (jfu f n (gvn v p n)) (by omega) (fun x x0 x1 => by
        by_cases u : x = n
        · rw [u, jfu_eq]
        · rw [jfu_ne u]; exact hf x x0 (by omega))
      refine fX9_isPeaceWithout_2 ⟨by omega, fun z => by rw [f0 12 0 (by simp), e12] at z; exfalso; omega, fun _ => ⟨fun z => ⟨⟨by omega, by rw [show jal 23 6 = 6 from rfl]; omega⟩, ⟨by omega, by rw [show jal 20 6 = 6 from rfl]; omega⟩, ?_⟩, fun z => ⟨⟨by omega, by rw [show jal 20 6 = 6 from rfl]; omega⟩, ?_⟩⟩⟩
      · rw [jwr_id (by omega) (by omega), en, jup_set, jset_set, jset_eq, f0 23 6 (by simp), (hp n (by omega) (by omega)).1]
        unfold gvn at hi
        rw [if_pos z] at hi
        exact hi
      · rw [jwr_id (by omega) (by omega), en, jup_set, jset_set, jset_eq]
        unfold gvn at hi
        rw [if_neg z] at hi
        exact hi
  have h := key (C 12 0 0).toNat 0 (M 20 6) (by omega) (fun x x0 x1 => by omega)
  rw [jset_self] at h
  exact h
