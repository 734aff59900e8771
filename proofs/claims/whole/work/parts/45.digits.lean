/-! readDigits, sortsShared -/
theorem td10 (x : Int) : (0 ≤ x → Int.tdiv x 10 = x / 10) ∧ (x < 0 → Int.tdiv x 10 = -((-x) / 10)) := by
  refine ⟨fun h => Int.tdiv_eq_ediv_of_nonneg h, fun h => ?_⟩
  have h1 := Int.neg_tdiv (-x) 10
  rw [Int.neg_neg] at h1
  rw [h1, Int.tdiv_eq_ediv_of_nonneg (by omega)]
theorem c_readDigits {C M : jM} {a b dg : Int} (ha : 0 ≤ a ∧ a < 18) (hb : 0 ≤ b ∧ b < 18) (hNa : jNB C a) (hNb : jNB C b) (h1 : M 20 0 1 = a) (h2 : M 20 0 2 = b) (hMa : M a = C a) (hMb : M b = C b) (hd : -2147483648 ≤ dg ∧ dg ≤ 2147483647) :
    jCallP 0 114 [.inr (20, 0), .inl dg] M (fun r M' => (∀ q, vld C a b q → num q (C a 0 0).toNat = dg → ¬ r = 0 ∧ ∀ z, 0 ≤ z → z < C a 0 0 → M' 20 6 z = q z) ∧ (¬ r = 0 → ∃ q, vld C a b q ∧ num q (C a 0 0).toNat = dg) ∧ ∀ x y, ¬ (x = 20 ∧ y = 6) → M' x y = M x y) := by
  have b1 := hNa.1
  have b2 := hNb.1
  refine jstart (by decide) rfl (fX0_readDigits_0 ?_)
  rw [h1, hMa, jwr_id (by omega) (by omega)]
  refine ⟨ha, ?_⟩
  generalize hQ : (fun (r : Int) (M' : jM) => (∀ q, vld C a b q → num q (C a 0 0).toNat = dg → ¬ r = 0 ∧ ∀ z, 0 ≤ z → z < C a 0 0 → M' 20 6 z = q z) ∧ (¬ r = 0 → ∃ q, vld C a b q ∧ num q (C a 0 0).toNat = dg) ∧ ∀ x y, ¬ (x = 20 ∧ y = 6) → M' x y = M x y) = Q
  have key : ∀ (n : Nat), (n : Int) ≤ C a 0 0 → ∀ (M1 : jM) (v2 v3 : Int), (∀ x y, ¬ (x = 20 ∧ y = 6) → M1 x y = M x y) → (∀ z : Int, n ≤ z → z < C a 0 0 → M1 20 6 z = -1 ∨ (0 ≤ M1 20 6 z ∧ M1 20 6 z < C b 0 0)) → (∀ z w : Int, n ≤ z → z < C a 0 0 → n ≤ w → w < C a 0 0 → 0 ≤ M1 20 6 z → M1 20 6 z = M1 20 6 w → z = w) →
      isM v3 (fun y => 0 ≤ y ∧ ∃ z : Int, n ≤ z ∧ z < C a 0 0 ∧ M1 20 6 z = y) → (∀ q, vld C a b q → (num q (C a 0 0).toNat = dg ↔ ((∀ z : Int, n ≤ z → z < C a 0 0 → q z = M1 20 6 z) ∧ num q n = v2))) → -2147483648 ≤ v2 → v2 ≤ 2147483647 →
      jWP 0 114 15 [some (.inr (20, 0)), none, some (.inl v2), some (.inl v3), some (.inl ((n : Int) - 1)), none, none] [] M1 Q := by
    intro n
    induction n with
    | zero =>
      intro _ M1 v2 v3 f1 f2 f3 f4 f5 l0 l1
      refine fX0_readDigits_15 ⟨fun _ => ⟨fun z => ⟨Or.inl rfl, ?_⟩, fun z => ⟨Or.inr rfl, ?_⟩⟩, fun z => by exfalso; omega⟩
      · rw [← hQ]
        refine ⟨fun q hv hn => ?_, fun w => absurd rfl w, f1⟩
        exact absurd ((f5 q hv).mp hn).2.symm z
      · rw [← hQ]
        refine ⟨fun q hv hn => ⟨by decide, fun x x0 x1 => (((f5 q hv).mp hn).1 x x0 x1).symm⟩, fun _ => ?_, f1⟩
        have hv : vld C a b (fun x => if 0 ≤ x ∧ x < C a 0 0 then M1 20 6 x else -1) := by
          refine ⟨fun x => ?_, fun x y hx he => ?_⟩
          · by_cases u : 0 ≤ x ∧ x < C a 0 0
            · simp only [if_pos u]
              rcases f2 x u.1 u.2 with w | w
              · exact Or.inl w
              · exact Or.inr ⟨u.1, u.2, w⟩
            · exact Or.inl (if_neg u)
          · by_cases u : 0 ≤ x ∧ x < C a 0 0
            · simp only [if_pos u] at hx he
              by_cases u2 : 0 ≤ y ∧ y < C a 0 0
              · simp only [if_pos u2] at he
                exact f3 x y u.1 u.2 u2.1 u2.2 hx he
              · simp only [if_neg u2] at he; omega
            · simp only [if_neg u] at hx; omega
        exact ⟨_, hv, (f5 _ hv).mpr ⟨fun x x0 x1 => if_pos ⟨x0, x1⟩, z.symm⟩⟩
    | succ n ih =>
      intro hn M1 v2 v3 f1 f2 f3 f4 f5 l0 l1
      have e2 : M1 20 0 2 = b := by rw [f1 _ _ (by simp), h2]
      have eb : M1 b 0 0 = C b 0 0 := by rw [f1 _ _ (by omega), hMb]
      obtain ⟨t1, t2⟩ := td10 v2
      generalize ht : Int.tdiv v2 10 = t at t1 t2
      generalize hg : v2 - t * 10 = g
      have hg2 : (0 ≤ v2 → t = v2 / 10 ∧ g = v2 % 10) ∧ (v2 < 0 → t ≤ 0 ∧ g ≤ 0 ∧ -9 ≤ g ∧ (g = 0 → t < 0)) := ⟨fun h => by have := t1 h; omega, fun h => by have := t2 h; omega⟩
      have bt : -2147483648 ≤ t ∧ t ≤ 2147483647 ∧ -9 ≤ g ∧ g ≤ 9 := by
        by_cases u : 0 ≤ v2
        · have := hg2.1 u; omega
        · have := t2 (by omega); have := hg2.2 (by omega); omega
      -- what the next digit must be
      have nx : ∀ q, vld C a b q → num q (C a 0 0).toNat = dg → 0 ≤ v2 ∧ cod9 (q n) = g ∧ num q n = t ∧ ∀ z : Int, ((n + 1 : Nat) : Int) ≤ z → z < C a 0 0 → q z = M1 20 6 z := fun q hv hq => by
        obtain ⟨u1, u2⟩ := (f5 q hv).mp hq
        have hq9 : ∀ x, q x < 9 := fun x => by rcases hv.1 x with e | e <;> omega
        have e : num q (n + 1) = 10 * num q n + cod9 (q n) := rfl
        have c := cod9_bd (hq9 n)
        have l := num_lt hq9 n
        have := hg2.1 (by omega)
        exact ⟨by omega, by omega, by omega, u1⟩
      have no : (∀ q, vld C a b q → ¬ num q (C a 0 0).toNat = dg) → Q 0 M1 := fun h => by
        rw [← hQ]
        exact ⟨fun q hv hq => absurd hq (h q hv), fun w => absurd rfl w, f1⟩
      -- go on
      have go : ∀ (s : Int) (v3' : Int), (s = -1 ∧ g = 9 ∧ v3' = jior v3 0) ∨ (s = g ∧ 0 ≤ g ∧ ¬ g = 9 ∧ g < C b 0 0 ∧ (¬ ∃ z : Int, ((n + 1 : Nat) : Int) ≤ z ∧ z < C a 0 0 ∧ M1 20 6 z = g) ∧ v3' = jior v3 (jishl 1 g)) → jWP 0 114 15 [some (.inr (20, 0)), none, some (.inl t), some (.inl v3'), some (.inl ((n : Int) - 1)), none, none] [] (jup M1 20 6 (n : Int) s) Q := fun s v3' hs => by
        have o : ∀ z, ¬ z = (n : Int) → (jup M1 20 6 (n : Int) s) 20 6 z = M1 20 6 z := fun z h => jup_ne (by simp [h])
        have on_ : (jup M1 20 6 (n : Int) s) 20 6 n = s := jup_eq _ _ _ _ _
        refine ih (by omega) _ t v3' (fun x y h => by rw [jup_set, jset_ne h]; exact f1 x y h) (fun z z0 z1 => ?_) (fun z w z0 z1 w0 w1 h e => ?_) ?_ (fun q hv => ?_) bt.1 bt.2.1
        · by_cases u : z = n
          · rw [u, on_]; omega
          · rw [o z u]; exact f2 z (by omega) z1
        · by_cases u : z = n
          · by_cases u2 : w = n
            · omega
            · rw [u, on_] at h e
              rw [o w u2] at e
              rcases hs with hs | hs
              · omega
              · exact absurd ⟨w, by omega, w1, by omega⟩ hs.2.2.2.2.1
          · rw [o z u] at h e
            by_cases u2 : w = n
            · rw [u2, on_] at e
              rcases hs with hs | hs
              · omega
              · exact absurd ⟨z, by omega, z1, by omega⟩ hs.2.2.2.2.1
            · rw [o w u2] at e
              exact f3 z w (by omega) z1 (by omega) w1 h e
        · have sets : ∀ y, ((0 ≤ y ∧ ∃ z : Int, ((n + 1 : Nat) : Int) ≤ z ∧ z < C a 0 0 ∧ M1 20 6 z = y) ∨ (0 ≤ s ∧ y = s)) ↔ (0 ≤ y ∧ ∃ z : Int, (n : Int) ≤ z ∧ z < C a 0 0 ∧ (jup M1 20 6 (n : Int) s) 20 6 z = y) := fun y => by
            constructor
            · rintro (⟨y0, z, z0, z1, e⟩ | ⟨y0, e⟩)
              · exact ⟨y0, z, by omega, z1, by rw [o z (by omega)]; exact e⟩
              · exact ⟨by omega, n, by omega, by omega, by rw [on_]; exact e.symm⟩
            · rintro ⟨y0, z, z0, z1, e⟩
              by_cases u : z = n
              · rw [u, on_] at e; exact Or.inr ⟨by omega, e.symm⟩
              · rw [o z u] at e; exact Or.inl ⟨y0, z, by omega, z1, e⟩
          rcases hs with ⟨e1, e2, e3⟩ | ⟨e1, e2, e3, e4, e5, e6⟩
          · rw [e3]
            exact (f4.or isM_0).congr (fun y _ _ => ⟨fun h => (sets y).mp (Or.inl (h.resolve_right (fun z => z))), fun h => ((sets y).mpr h).imp id (fun z => by omega)⟩)
          · rw [e6]
            exact (f4.or (isM_bit e2 (by omega))).congr (fun y _ _ => ⟨fun h => (sets y).mp (h.imp id (fun z => ⟨by omega, by omega⟩)), fun h => ((sets y).mpr h).imp id (fun z => by omega)⟩)
        · constructor
          · intro hq
            obtain ⟨u0, u1, u2, u3⟩ := nx q hv hq
            refine ⟨fun z z0 z1 => ?_, u2⟩
            by_cases u : z = n
            · rw [u, on_]
              unfold cod9 at u1
              rcases hv.1 n with w | w
              · rw [if_pos (by omega)] at u1; omega
              · rw [if_neg (by omega)] at u1; omega
            · rw [o z u]; exact u3 z (by omega) z1
          · rintro ⟨u1, u2⟩
            have un := u1 n (by omega) (by omega)
            rw [on_] at un
            have hq9 : ∀ x, q x < 9 := fun x => by rcases hv.1 x with e | e <;> omega
            have l := num_lt hq9 n
            have e : num q (n + 1) = 10 * num q n + cod9 (q n) := rfl
            refine (f5 q hv).mpr ⟨fun z z0 z1 => by rw [u1 z (by omega) z1, o z (by omega)], ?_⟩
            have cg : cod9 (q n) = g := by
              unfold cod9
              rw [un]
              rcases hs with hs | hs
              · rw [if_pos (by omega)]; omega
              · rw [if_neg (by omega)]; omega
            omega
      have bn : 0 ≤ (n : Int) ∧ (n : Int) < jal 20 6 := by rw [jal_20_6]; omega
      have w78 : (g = 9 ∨ (0 ≤ g ∧ ¬ g = 9 ∧ g < C b 0 0 ∧ (¬ ∃ z : Int, ((n + 1 : Nat) : Int) ≤ z ∧ z < C a 0 0 ∧ M1 20 6 z = g))) → jWP 0 114 78 [some (.inr (20, 0)), none, some (.inl t), some (.inl v3), some (.inl (((n + 1 : Nat) : Int) - 1)), some (.inl g), none] [] M1 Q := fun h => by
        rw [show ((n + 1 : Nat) : Int) - 1 = n by omega]
        refine fX0_readDigits_78 ⟨fun z => ?_, fun z => ?_⟩
        · obtain ⟨g0, g1, g2, g3⟩ := h.resolve_left z
          refine fX0_readDigits_97 ⟨bn, fun _ => ?_, fun z2 => absurd z2 z⟩
          rw [jwr_id (by omega) (by omega), show (n : Int) + -1 = (n : Int) - 1 by omega]
          exact go g _ (Or.inr ⟨rfl, g0, g1, g2, g3, rfl⟩)
        · refine fX0_readDigits_97 ⟨bn, fun z2 => absurd z z2, fun _ => ?_⟩
          rw [jwr_id (by omega) (by omega), show (n : Int) + -1 = (n : Int) - 1 by omega]
          exact go (-1) _ (Or.inl ⟨rfl, z, rfl⟩)
      have w61 : (∀ q, vld C a b q → num q (C a 0 0).toNat = dg → ¬ g = 9 → False) → jWP 0 114 61 [some (.inr (20, 0)), none, some (.inl t), some (.inl v3), some (.inl (((n + 1 : Nat) : Int) - 1)), some (.inl g), none] [] M1 Q := fun h => by
        refine fX0_readDigits_61 ⟨fun z => w78 (Or.inl z), fun z => ⟨fun z2 => absurd rfl z2, fun _ => ⟨Or.inl rfl, no (fun q hv hq => h q hv hq z)⟩⟩⟩
      refine fX0_readDigits_15 ?_
      rw [ht, hg, jwr_id (z := g) (by omega) (by omega), jwr_id (z := t) (by omega) (by omega), e2, eb]
      have q9 : ∀ q, vld C a b q → num q (C a 0 0).toNat = dg → ¬ g = 9 → 0 ≤ g ∧ g < C b 0 0 ∧ ¬ ∃ z : Int, ((n + 1 : Nat) : Int) ≤ z ∧ z < C a 0 0 ∧ M1 20 6 z = g := fun q hv hq h9 => by
        obtain ⟨u0, u1, u2, u3⟩ := nx q hv hq
        unfold cod9 at u1
        rcases hv.1 n with w | w
        · rw [if_pos (by omega)] at u1; omega
        · rw [if_neg (by omega)] at u1
          refine ⟨by omega, by omega, fun ⟨z, z0, z1, e⟩ => ?_⟩
          rw [← u3 z z0 z1] at e
          have := hv.2 n z (by omega) (by omega)
          omega
      refine ⟨fun z => by exfalso; omega, fun _ => ⟨by decide, by decide, fun z => w61 (fun q hv hq h9 => by have := q9 q hv hq h9; omega), fun z => ⟨hb, fun z2 => w61 (fun q hv hq h9 => by have := q9 q hv hq h9; omega), fun z2 => ⟨fun z3 => w61 (fun q hv hq h9 => ?_), fun z3 => ⟨fun z4 => w78 (Or.inl z4), fun z4 => ⟨fun _ => w78 (Or.inr ⟨z, z4, z2, fun w => ?_⟩), fun w => absurd w (by decide)⟩⟩⟩⟩⟩⟩
      · refine z3 ((f4.test z (by omega)).mpr (fun w => (q9 q hv hq h9).2.2 w.2))
      · exact (f4.test z (by omega)).mp z3 ⟨z, w⟩
  have := key (C a 0 0).toNat (by omega) M dg 0 (fun _ _ _ => rfl) (fun z z0 z1 => by omega) (fun z w z0 z1 => by omega) (isM_0.congr (fun y _ _ => ⟨fun h => h.elim, fun h => by obtain ⟨-, z, z0, z1, -⟩ := h; omega⟩)) (fun q hv => ⟨fun h => ⟨fun z z0 z1 => by omega, h⟩, fun h => h.2⟩) hd.1 hd.2
  rw [show (((C a 0 0).toNat : Nat) : Int) = C a 0 0 by omega] at this
  exact this
theorem c_sortsShared {C M : jM} {a b : Int} {q : Int → Int} (ha : 0 ≤ a ∧ a < 18) (hb : 0 ≤ b ∧ b < 18) (hNa : jNB C a) (hNb : jNB C b) (h1 : M 20 0 1 = a) (h2 : M 20 0 2 = b) (hMa : M a = C a) (hMb : M b = C b) (hv : vld C a b q) (hP : ∀ x, 0 ≤ x → x < C a 0 0 → M 20 6 x = q x) :
    jCallP 0 123 [.inr (20, 0)] M (fun r M' => r = srt C a b 0 q ∧ M' = M) := by
  have b1 := hNa.1
  have b2 := hNb.1
  refine jstart (by decide) rfl (fX0_sortsShared_0 ?_)
  have key : ∀ j n : Nat, ((n + j : Nat) : Int) = C a 0 0 → jWP 0 123 4 [some (.inr (20, 0)), some (.inl (cP (mts C a b q) n)), some (.inl (n : Int)), none] [] M (fun r M' => r = srt C a b 0 q ∧ M' = M) := by
    intro j
    induction j with
    | zero =>
      intro n hn
      refine fX0_sortsShared_4 ?_
      rw [h1, hMa]
      refine ⟨ha, fun _ => ⟨?_, rfl⟩, fun z => by exfalso; omega⟩
      unfold srt
      rw [if_neg (by omega), show (C a 0 0).toNat = n by omega]
    | succ j ih =>
      intro n hn
      have hi := ih (n + 1) (by omega)
      have c := cP_bd (mts C a b q) n
      have en : (n : Int) + 1 = ((n + 1 : Nat) : Int) := by omega
      have bn : 0 ≤ (n : Int) ∧ (n : Int) < jal 20 6 := by rw [jal_20_6]; omega
      have hq := hv.1 n
      refine fX0_sortsShared_4 ?_
      rw [h1, h2, hMa, hMb, hP n (by omega) (by omega), jwr_id (z := (n : Int) + 1) (by omega) (by omega), en]
      refine ⟨ha, fun z => by exfalso; omega, fun _ => ⟨bn, fun z => ?_, fun z => ⟨ha, ⟨by omega, by rw [jal_n4 ha]; omega⟩, hb, ⟨z, by rw [jal_n4 hb]; omega⟩, fun z2 => ?_, fun z2 => ?_⟩⟩⟩
      · rwa [cP_no (P := mts C a b q) (fun w => by have := w.1; omega)] at hi
      · rwa [cP_no (P := mts C a b q) (fun w => z2 w.2)] at hi
      · rw [jwr_id (by omega) (by omega)]
        rwa [cP_yes (P := mts C a b q) ⟨z, z2⟩] at hi
  exact key (C a 0 0).toNat 0 (by omega)
